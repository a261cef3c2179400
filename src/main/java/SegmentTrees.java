/**
 * A database of trees of segments, asked by paths. The numbered promises of the document say what
 * each public call does.
 */
public final class SegmentTrees {
    public static final int NONE = -1;

    private static final int TYPES = 8;
    private static final int LEVELS = 4;
    private static final int WORDS = 4;
    private static final int MOST_CONDITIONS = 3;
    private static final int MOST_SEGMENTS = 60;

    private static final int EQUAL = 1;
    private static final int NOT_EQUAL = 2;
    private static final int LESS = 3;
    private static final int AT_MOST = 4;
    private static final int GREATER = 5;
    private static final int AT_LEAST = 6;

    private static final int REFUSED_NO_PARENT = -2;
    private static final int REFUSED_NOT_UNIQUE = -3;
    private static final int REFUSED_FULL = -4;

    private static final int ASK_TYPE = 0;
    private static final int ASK_PARENT = 1;
    private static final int ASK_TWIN = 2;
    private static final int ASK_LEVEL = 3;
    private static final int ASK_FIRST_WORD = 10;

    private final Kind[] kinds = new Kind[TYPES];
    private final int[] workWords = new int[WORDS];
    private final Path stated = new Path();
    private final Order order = new Order();
    private final Position position = new Position();
    private Segment held;
    private Segment fixed;
    private int lastNumber;

    public SegmentTrees() {
    }

    public void type(int t, int parent, int length, int sequence, boolean unique, boolean last)
            throws IllegalArgumentException, IllegalStateException {
        held = null;
        if (t < 0 || t >= TYPES) {
            throw new IllegalArgumentException("there is no such type");
        }
        Kind above = kindOf(parent);
        if (parent != NONE && above == null) {
            throw new IllegalArgumentException("the parent is not declared");
        }
        if (above != null && above.level >= LEVELS) {
            throw new IllegalArgumentException("the level is too low");
        }
        if (length < 1 || length > WORDS) {
            throw new IllegalArgumentException("the length is out of bounds");
        }
        if (sequence != NONE && (sequence < 0 || sequence >= length)) {
            throw new IllegalArgumentException("the sequence is out of bounds");
        }
        if (kinds[t] != null) {
            throw new IllegalStateException("the type is declared");
        }
        refuseAfterInsert();
        kinds[t] = new Kind(t, above, length, sequence, unique, last);
    }

    public void twins(int t, int u) throws IllegalArgumentException, IllegalStateException {
        held = null;
        Kind one = declaredKind(t);
        Kind other = declaredKind(u);
        if (one == other) {
            throw new IllegalArgumentException("a type is not its own twin");
        }
        if (one.length != other.length || one.sequence != other.sequence) {
            throw new IllegalArgumentException("the types are not alike");
        }
        if (!one.hasSequence()) {
            throw new IllegalArgumentException("the types have no sequence");
        }
        if (one.twin != null || other.twin != null) {
            throw new IllegalStateException("a type has a twin");
        }
        refuseAfterInsert();
        one.twin = other;
        other.twin = one;
    }

    public void second(int t, int word) throws IllegalArgumentException, IllegalStateException {
        held = null;
        Kind kind = declaredKind(t);
        if (kind.parent == null) {
            throw new IllegalArgumentException("it is a root type");
        }
        if (!kind.hasWord(word)) {
            throw new IllegalArgumentException("the type has no such word");
        }
        refuseAfterInsert();
        order.nameSecond(kind, word);
    }

    public void clearPath() {
        held = null;
        stated.forget();
    }

    public boolean path(int t, int word, int operation, int number) throws IllegalArgumentException {
        held = null;
        Kind kind = declaredKind(t);
        if (operation < 0 || operation > AT_LEAST) {
            throw new IllegalArgumentException("there is no such operation");
        }
        if (operation == 0) {
            return stated.state(kind);
        }
        if (!kind.hasWord(word)) {
            throw new IllegalArgumentException("the type has no such word");
        }
        return stated.addCondition(kind, word, operation, number);
    }

    public void work(int i, int v) throws IllegalArgumentException {
        if (i < 0 || i >= WORDS) {
            throw new IllegalArgumentException("there is no such word to work with");
        }
        workWords[i] = v;
    }

    public int unique(boolean hold) {
        held = null;
        return got(order.firstThatMeets(stated, 0, null), hold);
    }

    public int next(boolean hold) {
        held = null;
        return got(order.firstThatMeets(stated, position.firstBehind(order), null), hold);
    }

    public int within(boolean hold) throws IllegalStateException {
        held = null;
        if (fixed == null) {
            throw new IllegalStateException("no parent is fixed");
        }
        return got(order.firstThatMeets(stated, position.firstBehind(order), fixed), hold);
    }

    public int fix() throws IllegalStateException {
        held = null;
        Segment here = position.standing();
        if (here == null) {
            throw new IllegalStateException("the position is at no segment");
        }
        fixed = here;
        return here.number;
    }

    public int at() {
        return numberOf(position.standing());
    }

    public int place() {
        held = null;
        return position.before(order);
    }

    public int word(int i) throws IllegalStateException, IndexOutOfBoundsException {
        Segment here = position.standing();
        if (here == null) {
            throw new IllegalStateException("the position is at no segment");
        }
        if (!here.kind.hasWord(i)) {
            throw new IndexOutOfBoundsException("the segment has no such word");
        }
        return here.words[i];
    }

    public int insert(int t) throws IllegalArgumentException {
        held = null;
        Kind kind = declaredKind(t);
        Segment parent = null;
        if (kind.parent != null) {
            parent = order.firstParent(kind.parent, stated);
            if (parent == null) {
                return REFUSED_NO_PARENT;
            }
        }
        if (kind.unique && order.hasSibling(kind, parent, workWords)) {
            return REFUSED_NOT_UNIQUE;
        }
        if (order.size >= MOST_SEGMENTS) {
            return REFUSED_FULL;
        }
        lastNumber++;
        Segment fresh = new Segment(lastNumber, kind, parent);
        fresh.takeWords(workWords);
        joinTwin(fresh);
        order.enter(fresh);
        position.standAt(fresh);
        return fresh.number;
    }

    public boolean replace() throws IllegalStateException {
        Segment target = held;
        held = null;
        if (target == null) {
            throw new IllegalStateException("no segment is held");
        }
        if (target.kind.hasSequence() && !target.hasSequenceOf(workWords)) {
            return false;
        }
        target.takeWords(workWords);
        if (target.twin != null) {
            target.twin.takeWords(workWords);
        }
        order.arrange();
        return true;
    }

    public int delete() throws IllegalStateException {
        Segment target = held;
        held = null;
        if (target == null) {
            throw new IllegalStateException("no segment is held");
        }
        // What is behind must be seen before the removal, which can move trees by the second order.
        Segment behind = order.firstBehindTree(target);
        if (fixed != null && fixed.isInTreeOf(target)) {
            fixed = null;
        }
        int removed = order.removeTree(target);
        position.standInFrontOf(behind);
        return removed;
    }

    public void bySecond(boolean on) throws IllegalStateException {
        held = null;
        if (!order.hasSecond()) {
            throw new IllegalStateException("there is no second order");
        }
        order.turnSecond(on);
        position.standInFrontOfAll();
    }

    public int count() {
        held = null;
        return order.size;
    }

    public int segment(int number, int what) {
        held = null;
        Segment asked = order.withNumber(number);
        if (asked == null) {
            return NONE;
        }
        switch (what) {
            case ASK_TYPE:
                return asked.kind.code;
            case ASK_PARENT:
                return numberOf(asked.parent);
            case ASK_TWIN:
                return numberOf(asked.twin);
            case ASK_LEVEL:
                return asked.kind.level;
            default:
                return wordAsked(asked, what);
        }
    }

    private static int wordAsked(Segment asked, int what) {
        if (what < ASK_FIRST_WORD || !asked.kind.hasWord(what - ASK_FIRST_WORD)) {
            return NONE;
        }
        return asked.words[what - ASK_FIRST_WORD];
    }

    private static int numberOf(Segment segment) {
        return segment == null ? 0 : segment.number;
    }

    private Kind kindOf(int t) {
        return t < 0 || t >= TYPES ? null : kinds[t];
    }

    private Kind declaredKind(int t) {
        Kind kind = kindOf(t);
        if (kind == null) {
            throw new IllegalArgumentException("the type is not declared");
        }
        return kind;
    }

    private void refuseAfterInsert() {
        if (lastNumber != 0) {
            throw new IllegalStateException("a segment was inserted");
        }
    }

    private int got(Segment found, boolean hold) {
        if (found == null) {
            return 0;
        }
        position.standAt(found);
        if (hold) {
            held = found;
        }
        return found.number;
    }

    private void joinTwin(Segment fresh) {
        Segment twin = order.freeTwinFor(fresh);
        if (twin != null) {
            twin.takeWords(workWords);
            twin.twin = fresh;
            fresh.twin = twin;
        }
    }

    /** A type that is declared. */
    private static final class Kind {
        final int code;
        final Kind parent;
        final int level;
        final int length;
        final int sequence;
        final boolean unique;
        final boolean tiesLast;
        Kind twin;

        Kind(int code, Kind parent, int length, int sequence, boolean unique, boolean tiesLast) {
            this.code = code;
            this.parent = parent;
            this.level = parent == null ? 1 : parent.level + 1;
            this.length = length;
            this.sequence = sequence;
            // Without a sequence there is nothing that could be the same, so that none is unique.
            this.unique = unique && sequence != NONE;
            this.tiesLast = tiesLast;
        }

        boolean hasWord(int i) {
            return i >= 0 && i < length;
        }

        boolean hasSequence() {
            return sequence != NONE;
        }

        Kind rootKind() {
            Kind root = this;
            for (int i = 1; i < LEVELS && root.parent != null; i++) {
                root = root.parent;
            }
            return root;
        }
    }

    /** A segment; its words beyond its type's length stay 0 and are never shown. */
    private static final class Segment {
        final int number;
        final Kind kind;
        final Segment parent;
        final int[] words = new int[WORDS];
        Segment twin;
        // The value of a root by the second order, as Order.arrange last found it.
        boolean hasValue;
        int value;

        Segment(int number, Kind kind, Segment parent) {
            this.number = number;
            this.kind = kind;
            this.parent = parent;
        }

        void takeWords(int[] from) {
            System.arraycopy(from, 0, words, 0, kind.length);
        }

        boolean hasSequenceOf(int[] others) {
            return kind.hasSequence() && words[kind.sequence] == others[kind.sequence];
        }

        /** The segment of a level above this one, or itself; null when the level is below it. */
        Segment atLevel(int level) {
            Segment here = this;
            for (int i = 1; i < LEVELS && here.kind.level > level && here.parent != null; i++) {
                here = here.parent;
            }
            return here.kind.level == level ? here : null;
        }

        boolean isInTreeOf(Segment top) {
            return atLevel(top.kind.level) == top;
        }

        boolean isBelow(Segment top) {
            return this != top && isInTreeOf(top);
        }

        void clearValue() {
            hasValue = false;
            value = 0;
        }

        void offerValue(int offered) {
            if (!hasValue || offered < value) {
                hasValue = true;
                value = offered;
            }
        }

        boolean comesBeforeBySecond(Segment other) {
            if (hasValue != other.hasValue) {
                return hasValue;
            }
            if (hasValue && value != other.value) {
                return value < other.value;
            }
            return number < other.number;
        }

        /** Whether this one, now inserted, comes in front of a child of the same parent. */
        boolean entersBefore(Segment child) {
            if (kind != child.kind) {
                return kind.code < child.kind.code;
            }
            if (!kind.hasSequence()) {
                return false;
            }
            int mine = words[kind.sequence];
            int theirs = child.words[kind.sequence];
            return mine < theirs || mine == theirs && !kind.tiesLast;
        }
    }

    /** What a path states for one level. */
    private static final class PathLevel {
        private Kind kind;
        private int conditions;
        private final int[] words = new int[MOST_CONDITIONS];
        private final int[] operations = new int[MOST_CONDITIONS];
        private final int[] numbers = new int[MOST_CONDITIONS];

        void forget() {
            kind = null;
            conditions = 0;
        }

        boolean isStated() {
            return kind != null;
        }

        boolean state(Kind wanted) {
            if (kind != null && kind != wanted) {
                return false;
            }
            kind = wanted;
            return true;
        }

        boolean addCondition(Kind wanted, int word, int operation, int number) {
            if (conditions >= MOST_CONDITIONS || !state(wanted)) {
                return false;
            }
            words[conditions] = word;
            operations[conditions] = operation;
            numbers[conditions] = number;
            conditions++;
            return true;
        }

        boolean isMetBy(Segment segment) {
            if (segment == null || segment.kind != kind) {
                return false;
            }
            for (int i = 0; i < conditions; i++) {
                if (!compares(segment.words[words[i]], operations[i], numbers[i])) {
                    return false;
                }
            }
            return true;
        }

        private static boolean compares(int word, int operation, int number) {
            switch (operation) {
                case EQUAL:
                    return word == number;
                case NOT_EQUAL:
                    return word != number;
                case LESS:
                    return word < number;
                case AT_MOST:
                    return word <= number;
                case GREATER:
                    return word > number;
                default:
                    return word >= number;
            }
        }
    }

    /** The path: what is stated for the levels 1 .. 4, each at its index less one. */
    private static final class Path {
        private final PathLevel[] levels = new PathLevel[LEVELS];

        Path() {
            for (int i = 0; i < LEVELS; i++) {
                levels[i] = new PathLevel();
            }
        }

        void forget() {
            for (int i = 0; i < LEVELS; i++) {
                levels[i].forget();
            }
        }

        boolean state(Kind kind) {
            return levels[kind.level - 1].state(kind);
        }

        boolean addCondition(Kind kind, int word, int operation, int number) {
            return levels[kind.level - 1].addCondition(kind, word, operation, number);
        }

        boolean isMetBy(Segment segment) {
            int lowest = lowestStated();
            return lowest == 0 || segment.kind.level == lowest && isMetDownTo(lowest, segment);
        }

        /** Whether a segment meets what is stated for the levels 1 .. level, its own the lowest. */
        boolean isMetDownTo(int level, Segment segment) {
            for (int i = 1; i <= level && i <= LEVELS; i++) {
                PathLevel here = levels[i - 1];
                if (here.isStated() && !here.isMetBy(segment.atLevel(i))) {
                    return false;
                }
            }
            return true;
        }

        private int lowestStated() {
            for (int level = LEVELS; level > 0; level--) {
                if (levels[level - 1].isStated()) {
                    return level;
                }
            }
            return 0;
        }
    }

    /** All segments, in the order by sequence and in the order there is now. */
    private static final class Order {
        private final Segment[] bySequence = new Segment[MOST_SEGMENTS];
        private final Segment[] now = new Segment[MOST_SEGMENTS];
        int size;
        private Kind secondKind;
        private int secondWord;
        private boolean secondOn;

        void nameSecond(Kind kind, int word) {
            secondKind = kind;
            secondWord = word;
        }

        boolean hasSecond() {
            return secondKind != null;
        }

        void turnSecond(boolean on) {
            secondOn = on;
            arrange();
        }

        int indexOf(Segment segment) {
            for (int i = 0; i < size; i++) {
                if (now[i] == segment) {
                    return i;
                }
            }
            return size;
        }

        Segment withNumber(int number) {
            for (int i = 0; i < size; i++) {
                if (now[i].number == number) {
                    return now[i];
                }
            }
            return null;
        }

        /** The first at an index or behind it that meets a path and is below top, if that is given. */
        Segment firstThatMeets(Path path, int from, Segment top) {
            for (int i = from; i < size; i++) {
                if ((top == null || now[i].isBelow(top)) && path.isMetBy(now[i])) {
                    return now[i];
                }
            }
            return null;
        }

        Segment firstParent(Kind kind, Path path) {
            for (int i = 0; i < size; i++) {
                if (now[i].kind == kind && path.isMetDownTo(kind.level, now[i])) {
                    return now[i];
                }
            }
            return null;
        }

        boolean hasSibling(Kind kind, Segment parent, int[] words) {
            for (int i = 0; i < size; i++) {
                Segment other = now[i];
                if (other.kind == kind && other.parent == parent && other.hasSequenceOf(words)) {
                    return true;
                }
            }
            return false;
        }

        Segment freeTwinFor(Segment fresh) {
            Segment best = null;
            for (int i = 0; i < size && fresh.kind.twin != null; i++) {
                Segment other = now[i];
                if (other.kind == fresh.kind.twin && other.twin == null
                        && other.hasSequenceOf(fresh.words)
                        && (best == null || other.number < best.number)) {
                    best = other;
                }
            }
            return best;
        }

        void enter(Segment fresh) {
            if (size >= MOST_SEGMENTS) {
                return;
            }
            int to = entryOf(fresh);
            for (int i = size; i > to; i--) {
                bySequence[i] = bySequence[i - 1];
            }
            bySequence[to] = fresh;
            size++;
            arrange();
        }

        /** Only children of its parent stand beside it: it goes in front of one, or behind all. */
        private int entryOf(Segment fresh) {
            int end = 0;
            for (int i = 0; i < size; i++) {
                Segment other = bySequence[i];
                if (other.parent == fresh.parent && fresh.entersBefore(other)) {
                    return i;
                }
                if (fresh.parent == null || other.isInTreeOf(fresh.parent)) {
                    end = i + 1;
                }
            }
            return end;
        }

        Segment firstBehindTree(Segment top) {
            for (int i = indexOf(top); i < size; i++) {
                if (!now[i].isInTreeOf(top)) {
                    return now[i];
                }
            }
            return null;
        }

        /** Takes a segment out with all below it and parts their twins: how many they were. */
        int removeTree(Segment top) {
            int kept = 0;
            for (int i = 0; i < size; i++) {
                Segment here = bySequence[i];
                if (!here.isInTreeOf(top)) {
                    bySequence[kept] = here;
                    kept++;
                } else if (here.twin != null) {
                    here.twin.twin = null;
                    here.twin = null;
                }
            }
            int removed = size - kept;
            for (int i = kept; i < size; i++) {
                bySequence[i] = null;
                now[i] = null;
            }
            size = kept;
            arrange();
            return removed;
        }

        /** Sets the order there is now, anew after each change that can touch it. */
        void arrange() {
            System.arraycopy(bySequence, 0, now, 0, size);
            if (secondOn && secondKind != null) {
                findValues();
                arrangeRoots(secondKind.rootKind());
            }
        }

        private void findValues() {
            for (int i = 0; i < size; i++) {
                bySequence[i].clearValue();
            }
            for (int i = 0; i < size; i++) {
                Segment here = bySequence[i];
                Segment root = here.atLevel(1);
                if (here.kind == secondKind && root != null) {
                    root.offerValue(here.words[secondWord]);
                }
            }
        }

        /** The trees of one root type stand together, so that they change places among themselves. */
        private void arrangeRoots(Kind rootKind) {
            int to = 0;
            while (to < size && bySequence[to].kind.rootKind() != rootKind) {
                to++;
            }
            int root = leastRootAfter(rootKind, null);
            for (int i = 0; i < size && root < size; i++) {
                to = copyTree(root, to);
                root = leastRootAfter(rootKind, bySequence[root]);
            }
        }

        /** Where the next root by the second order stands by sequence; size when there is none. */
        private int leastRootAfter(Kind rootKind, Segment previous) {
            int least = size;
            for (int i = 0; i < size; i++) {
                Segment here = bySequence[i];
                if (here.kind == rootKind
                        && (previous == null || previous.comesBeforeBySecond(here))
                        && (least == size || here.comesBeforeBySecond(bySequence[least]))) {
                    least = i;
                }
            }
            return least;
        }

        /** Copies the tree whose root stands at an index to another one: the index behind the copy. */
        private int copyTree(int from, int to) {
            Segment root = bySequence[from];
            int end = to;
            for (int i = from; i < size && end < size && bySequence[i].isInTreeOf(root); i++) {
                now[end] = bySequence[i];
                end++;
            }
            return end;
        }
    }

    /** At a segment, in front of one, in front of all, or behind all. */
    private static final class Position {
        private Segment mark;
        private boolean atMark;
        private boolean behindAll;

        void standAt(Segment segment) {
            mark = segment;
            atMark = true;
            behindAll = false;
        }

        void standInFrontOfAll() {
            mark = null;
            atMark = false;
            behindAll = false;
        }

        /** In front of a segment, or behind all when there is none. */
        void standInFrontOf(Segment segment) {
            mark = segment;
            atMark = false;
            behindAll = segment == null;
        }

        Segment standing() {
            return atMark ? mark : null;
        }

        int before(Order order) {
            if (mark != null) {
                return order.indexOf(mark);
            }
            return behindAll ? order.size : 0;
        }

        int firstBehind(Order order) {
            return before(order) + (atMark ? 1 : 0);
        }
    }
}
