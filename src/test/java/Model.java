import java.util.ArrayList;
import java.util.Comparator;
import java.util.List;
import java.util.TreeMap;

/**
 * A second writing of the document, as near to its words as plain collections allow: nothing is
 * kept that the words do not name, and the order is worked out anew whenever it is asked for.
 */
final class Model {
    private static final class Type {
        int parent;
        int level;
        int length;
        int sequence;
        boolean unique;
        boolean last;
        int twin = -1;
    }

    private static final class Node {
        int number;
        int type;
        int[] words;
        Node parent;
        Node twin;
        final TreeMap<Integer, List<Node>> children = new TreeMap<>();
    }

    private record Condition(int level, int word, int operation, int number) { }

    private enum Where { FRONT, AT, BEFORE, END }

    private final TreeMap<Integer, Type> types = new TreeMap<>();
    private final TreeMap<Integer, List<Node>> roots = new TreeMap<>();
    private final TreeMap<Integer, Integer> stated = new TreeMap<>();
    private final List<Condition> conditions = new ArrayList<>();
    private final int[] work = new int[4];
    private int inserted;
    private int secondType = -1;
    private int secondWord;
    private boolean secondOn;
    private Where where = Where.FRONT;
    private Node mark;
    private Node held;
    private Node fixed;

    public void type(int t, int parent, int length, int sequence, boolean unique, boolean last) {
        held = null;
        argument(t >= 0 && t <= 7);
        argument(parent == -1 || types.containsKey(parent));
        int level = parent == -1 ? 1 : types.get(parent).level + 1;
        argument(level <= 4);
        argument(length >= 1 && length <= 4);
        argument(sequence >= -1 && sequence < length);
        state(!types.containsKey(t) && inserted == 0);
        Type made = new Type();
        made.parent = parent;
        made.level = level;
        made.length = length;
        made.sequence = sequence;
        made.unique = unique;
        made.last = last;
        types.put(t, made);
    }

    public void twins(int t, int u) {
        held = null;
        argument(types.containsKey(t) && types.containsKey(u) && t != u);
        Type one = types.get(t);
        Type two = types.get(u);
        argument(one.length == two.length && one.sequence == two.sequence && one.sequence != -1);
        state(one.twin == -1 && two.twin == -1 && inserted == 0);
        one.twin = u;
        two.twin = t;
    }

    public void second(int t, int word) {
        held = null;
        argument(types.containsKey(t));
        argument(types.get(t).parent != -1 && word >= 0 && word < types.get(t).length);
        state(inserted == 0);
        secondType = t;
        secondWord = word;
    }

    public void clearPath() {
        held = null;
        stated.clear();
        conditions.clear();
    }

    public boolean path(int t, int word, int operation, int number) {
        held = null;
        argument(types.containsKey(t) && operation >= 0 && operation <= 6);
        argument(operation == 0 || word >= 0 && word < types.get(t).length);
        int level = types.get(t).level;
        if (stated.containsKey(level) && stated.get(level) != t) {
            return false;
        }
        long there = conditions.stream().filter(c -> c.level() == level).count();
        if (operation != 0 && there == 3) {
            return false;
        }
        stated.put(level, t);
        if (operation != 0) {
            conditions.add(new Condition(level, word, operation, number));
        }
        return true;
    }

    public void work(int i, int v) {
        argument(i >= 0 && i <= 3);
        work[i] = v;
    }

    public int unique(boolean hold) {
        held = null;
        return get(order(), hold);
    }

    public int next(boolean hold) {
        held = null;
        return get(behind(), hold);
    }

    public int within(boolean hold) {
        held = null;
        state(fixed != null);
        List<Node> below = new ArrayList<>();
        for (Node node : behind()) {
            for (Node up = node.parent; up != null; up = up.parent) {
                if (up == fixed) {
                    below.add(node);
                }
            }
        }
        return get(below, hold);
    }

    public int fix() {
        held = null;
        state(where == Where.AT);
        fixed = mark;
        return fixed.number;
    }

    public int at() {
        return where == Where.AT ? mark.number : 0;
    }

    public int place() {
        held = null;
        int all = order().size();
        return where == Where.AT ? all - 1 - behind().size() : all - behind().size();
    }

    public int word(int i) {
        state(where == Where.AT);
        if (i < 0 || i >= mark.words.length) {
            throw new IndexOutOfBoundsException();
        }
        return mark.words[i];
    }

    public int insert(int t) {
        held = null;
        argument(types.containsKey(t));
        Type type = types.get(t);
        Node parent = null;
        if (type.parent != -1) {
            for (Node node : order()) {
                if (node.type == type.parent && meetsAbove(node, type.level - 1)) {
                    parent = node;
                    break;
                }
            }
            if (parent == null) {
                return -2;
            }
        }
        List<Node> siblings = (parent == null ? roots : parent.children).computeIfAbsent(t, k -> new ArrayList<>());
        if (type.sequence != -1 && type.unique
                && siblings.stream().anyMatch(s -> s.words[type.sequence] == work[type.sequence])) {
            return -3;
        }
        if (order().size() == 60) {
            return -4;
        }
        Node node = new Node();
        inserted++;
        node.number = inserted;
        node.type = t;
        node.parent = parent;
        node.words = java.util.Arrays.copyOf(work, type.length);
        siblings.add(amongSiblings(siblings, type), node);
        twinFor(node, type);
        where = Where.AT;
        mark = node;
        return node.number;
    }

    private int amongSiblings(List<Node> siblings, Type type) {
        if (type.sequence == -1) {
            return siblings.size();
        }
        int mine = work[type.sequence];
        int to = 0;
        for (Node sibling : siblings) {
            int theirs = sibling.words[type.sequence];
            if (theirs < mine || theirs == mine && type.last) {
                to++;
            }
        }
        return to;
    }

    private void twinFor(Node node, Type type) {
        if (type.twin == -1) {
            return;
        }
        order().stream()
                .filter(n -> n.type == type.twin && n.twin == null)
                .filter(n -> n.words[type.sequence] == node.words[type.sequence])
                .min(Comparator.comparingInt(n -> n.number))
                .ifPresent(twin -> {
                    twin.twin = node;
                    node.twin = twin;
                    twin.words = node.words.clone();
                });
    }

    public boolean replace() {
        Node node = held;
        held = null;
        state(node != null);
        int sequence = types.get(node.type).sequence;
        if (sequence != -1 && node.words[sequence] != work[sequence]) {
            return false;
        }
        node.words = java.util.Arrays.copyOf(work, node.words.length);
        if (node.twin != null) {
            node.twin.words = node.words.clone();
        }
        return true;
    }

    public int delete() {
        Node node = held;
        held = null;
        state(node != null);
        List<Node> gone = new ArrayList<>();
        gather(node, gone);
        List<Node> behind = behind();
        behind.removeAll(gone);
        where = behind.isEmpty() ? Where.END : Where.BEFORE;
        mark = behind.isEmpty() ? null : behind.get(0);
        for (Node one : gone) {
            if (one.twin != null) {
                one.twin.twin = null;
                one.twin = null;
            }
            if (one == fixed) {
                fixed = null;
            }
        }
        (node.parent == null ? roots : node.parent.children).get(node.type).remove(node);
        return gone.size();
    }

    public void bySecond(boolean on) {
        held = null;
        state(secondType != -1);
        secondOn = on;
        where = Where.FRONT;
        mark = null;
    }

    public int count() {
        held = null;
        return order().size();
    }

    public int segment(int number, int what) {
        held = null;
        for (Node node : order()) {
            if (node.number == number) {
                return told(node, what);
            }
        }
        return -1;
    }

    private int told(Node node, int what) {
        if (what == 0) {
            return node.type;
        }
        if (what == 1) {
            return node.parent == null ? 0 : node.parent.number;
        }
        if (what == 2) {
            return node.twin == null ? 0 : node.twin.number;
        }
        if (what == 3) {
            return types.get(node.type).level;
        }
        return what >= 10 && what < 10 + node.words.length ? node.words[what - 10] : -1;
    }

    private List<Node> order() {
        List<Node> all = new ArrayList<>();
        for (int t : roots.keySet()) {
            List<Node> row = new ArrayList<>(roots.get(t));
            if (secondOn && rootTypeOf(secondType) == t) {
                row.sort(Comparator.comparingLong(this::secondValue).thenComparingInt(n -> n.number));
            }
            row.forEach(root -> gather(root, all));
        }
        return all;
    }

    private int rootTypeOf(int t) {
        int parent = types.get(t).parent;
        return parent == -1 ? t : rootTypeOf(parent);
    }

    private long secondValue(Node root) {
        List<Node> tree = new ArrayList<>();
        gather(root, tree);
        return tree.stream().filter(n -> n.type == secondType)
                .mapToLong(n -> n.words[secondWord]).min().orElse(Long.MAX_VALUE);
    }

    private static void gather(Node node, List<Node> to) {
        to.add(node);
        node.children.values().forEach(row -> row.forEach(child -> gather(child, to)));
    }

    private List<Node> behind() {
        List<Node> all = order();
        switch (where) {
            case FRONT:
                return all;
            case AT:
                return new ArrayList<>(all.subList(all.indexOf(mark) + 1, all.size()));
            case BEFORE:
                return new ArrayList<>(all.subList(all.indexOf(mark), all.size()));
            default:
                return new ArrayList<>();
        }
    }

    private int get(List<Node> from, boolean hold) {
        for (Node node : from) {
            boolean lowest = stated.isEmpty() || stated.lastKey() == types.get(node.type).level;
            if (lowest && meetsAbove(node, 4)) {
                where = Where.AT;
                mark = node;
                held = hold ? node : null;
                return node.number;
            }
        }
        return 0;
    }

    /** Whether what is stated for the levels up to one holds for a segment and those above it. */
    private boolean meetsAbove(Node node, int level) {
        for (int stage : stated.headMap(level, true).keySet()) {
            Node there = node;
            while (there != null && types.get(there.type).level != stage) {
                there = there.parent;
            }
            if (there == null || there.type != stated.get(stage)) {
                return false;
            }
            for (Condition condition : conditions) {
                if (condition.level() == stage && !holds(condition, there.words[condition.word()])) {
                    return false;
                }
            }
        }
        return true;
    }

    private static boolean holds(Condition condition, int word) {
        int by = Integer.compare(word, condition.number());
        return new boolean[] {by == 0, by != 0, by < 0, by <= 0, by > 0, by >= 0}[condition.operation() - 1];
    }

    private static void argument(boolean right) {
        if (!right) {
            throw new IllegalArgumentException();
        }
    }

    private static void state(boolean right) {
        if (!right) {
            throw new IllegalStateException();
        }
    }
}
