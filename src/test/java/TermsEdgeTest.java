import java.util.function.Consumer;

/** The sentences of "Terms" that name a boundary: types, segments, the order and the second order. */
public final class TermsEdgeTest {
    private static final int NONE = SegmentTrees.NONE;
    private static final int LEAST = Integer.MIN_VALUE;
    private static final int GREATEST = Integer.MAX_VALUE;
    private static final int[] NO_TYPES = {-1, 8, LEAST, GREATEST};
    private static final Check check = new Check();

    public static void main(String[] args) {
        typesAre0To7();
        parentIsDeclaredBefore();
        levelsAre1To4();
        lengthIs1To4();
        sequenceIsAWordOrNone();
        uniqueAndLastNeedASequence();
        twoTypesCanBeTwins();
        numbersFrom1();
        noNumberComesAgain();
        numbersOverAWholeRun();
        siblingsHaveTheSameParent();
        siblingsOfARootAreAllOfItsType();
        atMost60();
        atMost60AtOneTime();
        childrenByTheirTypes();
        eachSegmentThenAllBelowIt();
        siblingsBySequence();
        siblingsWithoutASequence();
        tiesLast();
        tiesFirst();
        rootsByTheirTypes();
        tiesOfRoots();
        check.end();
    }

    private static int put(SegmentTrees x, int t, int... words) {
        return States.put(x, t, words);
    }

    private static void typeAlone(SegmentTrees x, int t, int parent) {
        x.type(t, parent, 1, 0, false, true);
    }

    /** "TYPES are 0 .. 7." */
    private static void typesAre0To7() {
        SegmentTrees x = new SegmentTrees();
        typeAlone(x, 3, NONE);
        for (int t : NO_TYPES) {
            check.refusesArgument("type " + t, () -> typeAlone(x, t, NONE));
            check.refusesArgument("type below " + t, () -> typeAlone(x, 0, t == NONE ? -2 : t));
            check.refusesArgument("twins " + t, () -> x.twins(t, 3));
            check.refusesArgument("twins with " + t, () -> x.twins(3, t));
            check.refusesArgument("second " + t, () -> x.second(t, 0));
            check.refusesArgument("path " + t, () -> x.path(t, 0, 0, 0));
            check.refusesArgument("insert " + t, () -> x.insert(t));
        }
        for (int t = 0; t < 8; t++) {
            if (t != 3) {
                typeAlone(x, t, NONE);
            }
        }
        for (int t = 7; t >= 0; t--) {
            check.same("all eight can be there: " + t, x.insert(t), 8 - t);
        }
        check.order("all eight types", x, 8, 7, 6, 5, 4, 3, 2, 1);
    }

    /** "Each that is declared has a PARENT, a type declared before, or none" */
    private static void parentIsDeclaredBefore() {
        SegmentTrees x = new SegmentTrees();
        check.refusesArgument("itself", () -> typeAlone(x, 0, 0));
        check.refusesArgument("not yet declared", () -> typeAlone(x, 0, 7));
        typeAlone(x, 7, NONE);
        typeAlone(x, 0, 7);
        check.same("no root", x.insert(0), -2);
        check.same("a root", x.insert(7), 1);
        check.same("below it", x.insert(0), 2);
        check.same("its parent", x.segment(2, 1), 1);
    }

    /** "a ROOT type, at LEVEL 1; otherwise its level is one more than its parent's, at most 4." */
    private static void levelsAre1To4() {
        SegmentTrees x = new SegmentTrees();
        for (int t = 0; t < 4; t++) {
            typeAlone(x, t, t - 1);
        }
        check.refusesArgument("level 5", () -> typeAlone(x, 4, 3));
        for (int t = 4; t < 8; t++) {
            typeAlone(x, t, t == 4 ? NONE : t - 1);
        }
        for (int t = 0; t < 8; t++) {
            check.same("inserted", x.insert(t), t + 1);
            check.same("level of type " + t, x.segment(t + 1, 3), t % 4 + 1);
        }
        check.order("two trees, as deep as they can be", x, 1, 2, 3, 4, 5, 6, 7, 8);
    }

    /** "It has a LENGTH, 1 .. 4: so many words (ints) has each of its segments." */
    private static void lengthIs1To4() {
        SegmentTrees x = new SegmentTrees();
        for (int length : new int[] {0, 5, -1, LEAST, GREATEST}) {
            check.refusesArgument("length " + length, () -> x.type(0, NONE, length, NONE, false, true));
        }
        for (int length = 1; length <= 4; length++) {
            x.type(length, NONE, length, NONE, false, true);
        }
        for (int length = 1; length <= 4; length++) {
            put(x, length, LEAST, GREATEST, -1, 7);
            int[] due = {LEAST, GREATEST, -1, 7};
            for (int i = 0; i < length; i++) {
                check.same("word " + i + " of " + length, x.word(i), due[i]);
                check.isTrue("path by word " + i + " of " + length, x.path(length, i, 1, due[i]));
                x.clearPath();
            }
            int type = length;
            check.refusesIndex("no more words than " + length, () -> x.word(type));
            check.refusesArgument("no more words for a path", () -> x.path(type, type, 1, 0));
            check.same("no more words to be asked for", x.segment(length, 10 + length), NONE);
        }
    }

    /** "A word, or none, is its SEQUENCE" */
    private static void sequenceIsAWordOrNone() {
        for (int length = 1; length <= 4; length++) {
            for (int sequence = NONE; sequence < length; sequence++) {
                SegmentTrees x = new SegmentTrees();
                x.type(0, NONE, length, sequence, false, true);
                put(x, 0, 5, 5, 5, 5);
                if (sequence == NONE) {
                    put(x, 0, 4, 4, 4, 4);
                    check.order("no sequence of " + length, x, 1, 2);
                } else {
                    x.work(sequence, 4);
                    x.insert(0);
                    check.order("sequence " + sequence + " of " + length, x, 2, 1);
                }
            }
            SegmentTrees x = new SegmentTrees();
            int beyond = length;
            for (int sequence : new int[] {-2, beyond, LEAST, GREATEST}) {
                check.refusesArgument("sequence " + sequence + " of " + length,
                        () -> x.type(0, NONE, beyond, sequence, false, true));
            }
        }
    }

    /** "it may be UNIQUE; and ties come LAST or first (neither is looked at without a sequence)" */
    private static void uniqueAndLastNeedASequence() {
        for (int i = 0; i < 4; i++) {
            SegmentTrees x = new SegmentTrees();
            x.type(0, NONE, 2, NONE, i % 2 == 1, i / 2 == 1);
            x.type(1, 0, 2, NONE, i % 2 == 1, i / 2 == 1);
            check.same("a root", x.insert(0), 1);
            check.same("the same words", x.insert(0), 2);
            check.same("a child", x.insert(1), 3);
            check.same("the same words again", x.insert(1), 4);
            check.order("as they were inserted", x, 1, 3, 4, 2);
        }
    }

    /** "Two types can be TWINS." */
    private static void twoTypesCanBeTwins() {
        SegmentTrees x = new SegmentTrees();
        for (int t = 0; t < 8; t++) {
            typeAlone(x, t, NONE);
        }
        for (int t = 0; t < 4; t++) {
            x.twins(t, 7 - t);
        }
        for (int t = 0; t < 8; t++) {
            x.insert(t);
        }
        for (int number = 1; number <= 8; number++) {
            check.same("four pairs: the twin of " + number, x.segment(number, 2), 9 - number);
        }
    }

    /** "A SEGMENT has a number (1, 2, .. as they are inserted" */
    private static void numbersFrom1() {
        SegmentTrees x = new SegmentTrees();
        x.type(0, NONE, 1, 0, true, true);
        x.type(1, 0, 1, 0, true, true);
        check.same("refused before the first", x.insert(1), -2);
        check.same("the first", x.insert(0), 1);
        check.same("refused", x.insert(0), -3);
        check.same("the second, in front of the first", put(x, 0, -1), 2);
        check.same("the third, between them", x.insert(1), 3);
        check.order("by the order, not by numbers", x, 2, 3, 1);
        SegmentTrees y = new SegmentTrees();
        typeAlone(y, 0, NONE);
        check.same("another object numbers its own", y.insert(0), 1);
    }

    /** "no number comes again" */
    private static void noNumberComesAgain() {
        SegmentTrees x = new SegmentTrees();
        typeAlone(x, 0, NONE);
        for (int number = 1; number <= 5; number++) {
            check.same("alone, and then deleted", x.insert(0), number);
            x.unique(true);
            x.delete();
            check.same("gone", x.segment(number, 0), NONE);
        }
        check.same("none is there", x.count(), 0);
    }

    /** As many numbers as a run of 512 calls can reach come one by one. */
    private static void numbersOverAWholeRun() {
        SegmentTrees x = new SegmentTrees();
        typeAlone(x, 0, NONE);
        typeAlone(x, 1, 0);
        int number = 0;
        for (int round = 0; round < 8; round++) {
            for (int i = 0; i < 60; i++) {
                number++;
                check.same("inserted", x.insert(i == 0 ? 0 : 1), number);
            }
            x.unique(true);
            check.same("sixty are deleted", x.delete(), 60);
        }
        check.same("the last number", x.insert(0), 481);
        check.same("it alone is there", x.count(), 1);
    }

    /** "Its SIBLINGS are those of its type that have the same parent" */
    private static void siblingsHaveTheSameParent() {
        SegmentTrees x = new SegmentTrees();
        x.type(0, NONE, 1, 0, false, true);
        x.type(1, 0, 1, 0, true, true);
        x.type(2, 0, 1, 0, true, true);
        put(x, 0, 1);
        put(x, 0, 2);
        x.work(0, 9);
        check.same("below 1", x.insert(1), 3);
        check.same("a sibling", x.insert(1), -3);
        check.same("of another type", x.insert(2), 4);
        x.path(0, 0, 1, 2);
        check.same("of another parent", x.insert(1), 5);
        check.same("a sibling there", x.insert(1), -3);
    }

    /** "(of a root type: all of it)" */
    private static void siblingsOfARootAreAllOfItsType() {
        SegmentTrees x = new SegmentTrees();
        x.type(0, NONE, 1, 0, true, true);
        x.type(1, NONE, 1, 0, true, true);
        check.same("a root", x.insert(0), 1);
        check.same("of another type", x.insert(1), 2);
        put(x, 0, 5);
        check.same("the first one is a sibling still", put(x, 0, 0), -3);
        check.same("and so is the other", put(x, 0, 5), -3);
    }

    private static void sixtyRoots(SegmentTrees x) {
        typeAlone(x, 0, NONE);
        for (int i = 1; i <= 60; i++) {
            check.same("root " + i, x.insert(0), i);
        }
    }

    private static void sixtyInTrees(SegmentTrees x) {
        typeAlone(x, 0, NONE);
        for (int t = 1; t < 4; t++) {
            typeAlone(x, t, t - 1);
        }
        for (int i = 1; i <= 60; i++) {
            check.same("segment " + i, x.insert((i - 1) % 4), i);
        }
    }

    /** "At most 60 segments are there at one time." */
    private static void atMost60() {
        Consumer<SegmentTrees> roots = TermsEdgeTest::sixtyRoots;
        Consumer<SegmentTrees> trees = TermsEdgeTest::sixtyInTrees;
        for (Consumer<SegmentTrees> made : java.util.List.of(roots, trees)) {
            SegmentTrees x = new SegmentTrees();
            made.accept(x);
            check.same("sixty", x.count(), 60);
            check.same("no more", x.insert(0), -4);
            check.same("sixty still", x.count(), 60);
            check.same("number 60", x.segment(60, 1) >= 0 ? 1 : 0, 1);
            check.same("no number 61", x.segment(61, 0), NONE);
            int got = x.unique(false) > 0 ? 1 : 0;
            while (got <= 60 && x.next(false) > 0) {
                got++;
            }
            check.same("each is got once", got, 60);
            check.same("the last one's place", x.place(), 59);
        }
    }

    /** "at one time": what was deleted leaves its room. */
    private static void atMost60AtOneTime() {
        SegmentTrees x = new SegmentTrees();
        sixtyInTrees(x);
        x.path(2, 0, 0, 0);
        x.unique(true);
        int gone = x.delete();
        x.clearPath();
        check.same("a segment with all below it", gone, 16);
        for (int i = 1; i <= gone; i++) {
            check.same("room", x.insert(0), 60 + i);
        }
        check.same("and no more", x.insert(0), -4);
        check.same("sixty", x.count(), 60);
    }

    /** "its children by their types", also when these have lesser numbers than the parent's */
    private static void childrenByTheirTypes() {
        SegmentTrees x = new SegmentTrees();
        typeAlone(x, 4, NONE);
        for (int t : new int[] {7, 0, 5, 3}) {
            typeAlone(x, t, 4);
        }
        x.insert(4);
        put(x, 7, LEAST);
        put(x, 0, GREATEST);
        put(x, 5, 0);
        put(x, 3, 0);
        check.order("0, 3, 5, 7, and not by their words", x, 1, 3, 5, 4, 2);
    }

    /** "THE ORDER: each segment, then all below it" */
    private static void eachSegmentThenAllBelowIt() {
        SegmentTrees x = new SegmentTrees();
        for (int t = 0; t < 4; t++) {
            typeAlone(x, t, t - 1);
        }
        for (int t = 0; t < 4; t++) {
            put(x, t, 5);
        }
        for (int t = 3; t >= 0; t--) {
            put(x, t, 6);
        }
        check.order("behind the tree that it is behind", x, 1, 2, 3, 4, 5, 6, 7, 8);
        for (int t = 3; t >= 0; t--) {
            put(x, t, 4);
        }
        check.order("in front of the tree that it is in front of", x, 12, 1, 11, 2, 10, 3, 9, 4, 5, 6, 7, 8);
    }

    /** "of a type siblings by their sequence", least and greatest */
    private static void siblingsBySequence() {
        int[] words = {0, GREATEST, LEAST, -1, 1, GREATEST - 1, LEAST + 1};
        for (int level = 1; level <= 4; level++) {
            SegmentTrees x = new SegmentTrees();
            for (int t = 0; t < level; t++) {
                x.type(t, t - 1, 4, 3, false, true);
            }
            for (int t = 0; t < level - 1; t++) {
                x.insert(t);
            }
            for (int word : words) {
                put(x, level - 1, 0, 0, 0, word);
            }
            x.path(level - 1, 0, 0, 0);
            int before = level - 1;
            check.order("at level " + level, x, before + 3, before + 7, before + 4, before + 1, before + 5,
                    before + 6, before + 2);
        }
    }

    /** "(a type without one: as they were inserted)" */
    private static void siblingsWithoutASequence() {
        SegmentTrees x = new SegmentTrees();
        typeAlone(x, 0, NONE);
        x.type(1, 0, 1, NONE, false, false);
        x.insert(0);
        for (int word : new int[] {3, LEAST, GREATEST, 3}) {
            put(x, 1, word);
        }
        check.order("as inserted", x, 1, 2, 3, 4, 5);
        x.path(1, 0, 1, LEAST);
        x.unique(true);
        x.delete();
        x.clearPath();
        put(x, 1, LEAST);
        check.order("also where one was deleted", x, 1, 2, 4, 5, 6);
    }

    private static void equalSequences(SegmentTrees x, int t) {
        for (int word : new int[] {LEAST, 0, GREATEST, LEAST, 0, GREATEST, GREATEST, 0, LEAST}) {
            put(x, t, word);
        }
    }

    /** "One that is inserted comes behind all siblings whose sequence is equal, if ties come last" */
    private static void tiesLast() {
        SegmentTrees x = new SegmentTrees();
        typeAlone(x, 0, NONE);
        x.type(1, 0, 1, 0, false, true);
        x.insert(0);
        equalSequences(x, 1);
        check.order("last", x, 1, 2, 5, 10, 3, 6, 9, 4, 7, 8);
    }

    /** "otherwise in front of these" */
    private static void tiesFirst() {
        SegmentTrees x = new SegmentTrees();
        typeAlone(x, 0, NONE);
        x.type(1, 0, 1, 0, false, false);
        x.insert(0);
        equalSequences(x, 1);
        check.order("first", x, 1, 10, 5, 2, 9, 6, 3, 8, 7, 4);
    }

    /** "Roots come by their types" */
    private static void rootsByTheirTypes() {
        SegmentTrees x = new SegmentTrees();
        typeAlone(x, 7, NONE);
        typeAlone(x, 6, 7);
        typeAlone(x, 0, NONE);
        typeAlone(x, 1, 0);
        put(x, 7, LEAST);
        put(x, 6, LEAST);
        put(x, 0, GREATEST);
        put(x, 1, GREATEST);
        check.order("0 before 7, each with what is below", x, 3, 4, 1, 2);
    }

    /** "and of a type likewise" */
    private static void tiesOfRoots() {
        for (int last = 0; last < 2; last++) {
            SegmentTrees x = new SegmentTrees();
            x.type(0, NONE, 1, 0, false, last == 1);
            typeAlone(x, 1, 0);
            equalSequences(x, 0);
            check.order("roots", x, last == 1 ? new int[] {1, 4, 9, 2, 5, 8, 3, 6, 7}
                    : new int[] {9, 4, 1, 8, 5, 2, 7, 6, 3});
            SegmentTrees y = new SegmentTrees();
            y.type(0, NONE, 1, NONE, false, last == 1);
            equalSequences(y, 0);
            check.order("roots without a sequence", y, 1, 2, 3, 4, 5, 6, 7, 8, 9);
        }
    }
}
