/** The sentences of the promises 1 to 4 that name a boundary: a new object, type, twins and second. */
public final class DeclarationEdgeTest {
    private static final int NONE = SegmentTrees.NONE;
    private static final int LEAST = Integer.MIN_VALUE;
    private static final int GREATEST = Integer.MAX_VALUE;
    private static final Check check = new Check();

    public static void main(String[] args) {
        noneIsLessOne();
        newHasNoTypes();
        newHasNoSegments();
        newHasAnEmptyPath();
        newHasWorkWords0();
        newHasNoSecondOrder();
        newIsInFrontOfAll();
        objectsShareNothing();
        typeOutOfBounds();
        typeParentNotDeclared();
        typeLevel5();
        typeLengthOutOfBounds();
        typeSequenceOutOfBounds();
        typeSequenceOfItsOwnLength();
        typeDeclared();
        typeAfterAnInsert();
        typeAfterRefusedInserts();
        twinsNotDeclared();
        twinsTheSame();
        twinsOfOtherLengths();
        twinsOfOtherSequences();
        twinsWithoutASequence();
        twinsThatAreTaken();
        twinsThatDifferElsewhere();
        twinsAfterAnInsert();
        secondNotDeclared();
        secondOfARootType();
        secondWords();
        secondAtEachLevel();
        secondAfterAnInsert();
        check.end();
    }

    private static void root(SegmentTrees x, int t) {
        x.type(t, NONE, 1, 0, false, true);
    }

    /** "The constants: NONE = -1" */
    private static void noneIsLessOne() {
        check.same("NONE", SegmentTrees.NONE, -1);
    }

    /** 1: "No types" */
    private static void newHasNoTypes() {
        SegmentTrees x = new SegmentTrees();
        for (int t = 0; t < 8; t++) {
            int type = t;
            check.refusesArgument("insert " + t, () -> x.insert(type));
            check.refusesArgument("path " + t, () -> x.path(type, 0, 0, 0));
            check.refusesArgument("second " + t, () -> x.second(type, 0));
            check.refusesArgument("twins " + t, () -> x.twins(type, (type + 1) % 8));
            check.refusesArgument("type below " + t, () -> x.type((type + 1) % 8, type, 1, 0, true, true));
        }
    }

    /** 1: "no segments" */
    private static void newHasNoSegments() {
        SegmentTrees x = new SegmentTrees();
        check.same("count", x.count(), 0);
        check.same("unique", x.unique(false), 0);
        check.same("next", x.next(false), 0);
        for (int number = -1; number <= 61; number++) {
            check.same("segment " + number, x.segment(number, 0), NONE);
        }
        root(x, 0);
        check.same("a type makes none", x.count(), 0);
        check.same("nor can one be got", x.unique(true), 0);
        check.same("the first number", x.insert(0), 1);
    }

    /** 1: "an empty path" */
    private static void newHasAnEmptyPath() {
        SegmentTrees x = new SegmentTrees();
        for (int t = 0; t < 8; t++) {
            x.type(t, t % 4 - 1 < 0 ? NONE : t - 1, 1, 0, false, true);
        }
        for (int t = 0; t < 8; t++) {
            check.same("inserted", x.insert(t), t + 1);
        }
        check.order("each segment meets it", x, 1, 2, 3, 4, 5, 6, 7, 8);
        for (int t = 4; t < 8; t++) {
            check.isTrue("no level is stated", x.path(t, 0, 1, 0));
        }
    }

    /** 1: "all words to work with 0" */
    private static void newHasWorkWords0() {
        SegmentTrees x = new SegmentTrees();
        x.type(0, NONE, 4, NONE, false, true);
        x.insert(0);
        for (int i = 0; i < 4; i++) {
            check.same("word " + i, x.word(i), 0);
        }
    }

    /** 1: "no second order" */
    private static void newHasNoSecondOrder() {
        SegmentTrees x = new SegmentTrees();
        check.refusesState("on", () -> x.bySecond(true));
        check.refusesState("off", () -> x.bySecond(false));
        root(x, 0);
        x.type(1, 0, 1, 0, false, true);
        check.refusesState("with types", () -> x.bySecond(true));
        x.insert(0);
        x.insert(1);
        check.refusesState("with segments", () -> x.bySecond(true));
    }

    /** 1: "the position is in front of all" */
    private static void newIsInFrontOfAll() {
        SegmentTrees x = new SegmentTrees();
        check.same("at none", x.at(), 0);
        check.same("none before", x.place(), 0);
        check.refusesState("no parent is fixed", () -> x.within(false));
        check.refusesState("none to fix", x::fix);
        check.refusesState("none that has words", () -> x.word(0));
    }

    private static void objectsShareNothing() {
        SegmentTrees x = new SegmentTrees();
        States.filled(x);
        x.path(0, 0, 1, 99);
        x.bySecond(true);
        SegmentTrees y = new SegmentTrees();
        check.same("none in the other", y.count(), 0);
        check.refusesArgument("no type in the other", () -> y.insert(0));
        check.refusesState("no second order in the other", () -> y.bySecond(true));
        y.type(0, NONE, 4, NONE, false, true);
        y.insert(0);
        check.same("nor words to work with", y.word(3), 0);
        check.same("nor a path", y.unique(false), 1);
        check.same("nine in the first still", x.count(), 9);
    }

    /** 2: "IllegalArgumentException when t is not 0 .. 7" */
    private static void typeOutOfBounds() {
        SegmentTrees x = new SegmentTrees();
        for (int t : new int[] {-1, 8, LEAST, GREATEST}) {
            check.refusesArgument("type " + t, () -> root(x, t));
        }
        root(x, 0);
        root(x, 7);
        check.same("the least", x.insert(0), 1);
        check.same("the greatest", x.insert(7), 2);
    }

    /** 2: "its parent is not NONE and not declared" */
    private static void typeParentNotDeclared() {
        SegmentTrees x = new SegmentTrees();
        root(x, 0);
        for (int parent : new int[] {-2, 1, 2, 7, 8, LEAST, GREATEST}) {
            check.refusesArgument("below " + parent, () -> x.type(1, parent, 1, 0, true, true));
        }
        x.type(1, 0, 1, 0, true, true);
        x.type(2, NONE, 1, 0, true, true);
        check.same("below 0: no parent yet", x.insert(1), -2);
        check.same("below none", x.insert(2), 1);
    }

    /** 2: "the level would be 5" */
    private static void typeLevel5() {
        SegmentTrees x = new SegmentTrees();
        for (int t = 0; t < 4; t++) {
            x.type(7 - t, t == 0 ? NONE : 8 - t, 1, 0, false, true);
        }
        check.refusesArgument("below level 4", () -> x.type(0, 4, 1, 0, false, true));
        x.type(0, 5, 1, 0, false, true);
        check.refusesArgument("below another of level 4", () -> x.type(1, 0, 1, 0, false, true));
        x.type(1, 6, 1, 0, false, true);
        x.type(2, 1, 1, 0, false, true);
        for (int t : new int[] {7, 6, 5, 4, 0, 1, 2}) {
            x.insert(t);
        }
        int[] due = {1, 2, 3, 4, 4, 3, 4};
        for (int i = 0; i < due.length; i++) {
            check.same("level of " + (i + 1), x.segment(i + 1, 3), due[i]);
        }
    }

    /** 2: "or the length .. is out of its bounds" */
    private static void typeLengthOutOfBounds() {
        SegmentTrees x = new SegmentTrees();
        for (int length : new int[] {0, 5, -1, 8, LEAST, GREATEST}) {
            check.refusesArgument("length " + length, () -> x.type(0, NONE, length, 0, false, true));
            check.refusesArgument("and no sequence", () -> x.type(0, NONE, length, NONE, false, true));
        }
        x.type(0, NONE, 1, 0, false, true);
        x.type(1, NONE, 4, 0, false, true);
        x.insert(0);
        check.refusesIndex("the least: one word", () -> x.word(1));
        x.insert(1);
        check.same("the greatest: four words", x.word(3), 0);
    }

    /** 2: "or the sequence (NONE for none), is out of its bounds" */
    private static void typeSequenceOutOfBounds() {
        SegmentTrees x = new SegmentTrees();
        for (int sequence : new int[] {-2, 4, 5, LEAST, GREATEST}) {
            check.refusesArgument("sequence " + sequence, () -> x.type(0, NONE, 4, sequence, false, true));
        }
        x.type(0, NONE, 4, 3, true, true);
        x.type(1, NONE, 4, 0, true, true);
        x.type(2, NONE, 4, NONE, true, true);
        for (int t = 0; t < 3; t++) {
            check.same("the greatest, the least and none", x.insert(t), t + 1);
        }
        x.work(3, 1);
        check.same("word 3 counts for type 0", x.insert(0), 4);
        check.same("but not for type 1", x.insert(1), -3);
    }

    /** 2: a word that a longer type has is no sequence of a shorter one. */
    private static void typeSequenceOfItsOwnLength() {
        for (int length = 1; length <= 4; length++) {
            SegmentTrees x = new SegmentTrees();
            int beyond = length;
            check.refusesArgument("sequence " + length, () -> x.type(0, NONE, beyond, beyond, true, true));
            x.type(0, NONE, length, length - 1, true, true);
            x.insert(0);
            check.same("the last word is the sequence", x.insert(0), -3);
            x.work(length - 1, 1);
            check.same("and no other", x.insert(0), 2);
        }
    }

    /** 2: "IllegalStateException when it is declared" */
    private static void typeDeclared() {
        SegmentTrees x = new SegmentTrees();
        for (int t = 0; t < 8; t++) {
            x.type(t, NONE, 2, 1, true, true);
        }
        for (int t = 0; t < 8; t++) {
            int type = t;
            check.refusesState("as it is", () -> x.type(type, NONE, 2, 1, true, true));
            check.refusesState("as another", () -> x.type(type, (type + 1) % 8, 4, NONE, false, false));
            check.refusesState("below itself", () -> x.type(type, type, 1, 0, false, false));
        }
        for (int t = 0; t < 8; t++) {
            x.work(1, 0);
            check.same("a root type still", x.insert(t), 2 * t + 1);
            check.same("unique still", x.insert(t), -3);
            int number = x.at();
            check.refusesIndex("of two words still", () -> x.word(2));
            x.work(1, -1);
            x.insert(t);
            check.same("by word 1 still", x.next(false), number);
        }
    }

    /** 2: "or a segment was inserted" */
    private static void typeAfterAnInsert() {
        SegmentTrees x = new SegmentTrees();
        root(x, 0);
        x.insert(0);
        check.refusesState("one is there", () -> root(x, 1));
        x.unique(true);
        x.delete();
        check.same("none is there", x.count(), 0);
        check.refusesState("one was there", () -> root(x, 1));
        check.refusesArgument("it was not declared", () -> x.insert(1));
    }

    private static void typeAfterRefusedInserts() {
        SegmentTrees x = new SegmentTrees();
        root(x, 0);
        x.type(1, 0, 1, 0, false, true);
        check.same("refused", x.insert(1), -2);
        check.refusesArgument("refused too", () -> x.insert(2));
        root(x, 2);
        x.twins(0, 2);
        x.second(1, 0);
        check.same("none was inserted before", x.insert(2), 1);
    }

    /** 3: "IllegalArgumentException when one is not declared" */
    private static void twinsNotDeclared() {
        SegmentTrees x = new SegmentTrees();
        root(x, 0);
        for (int u : new int[] {-1, 1, 7, 8, LEAST, GREATEST}) {
            check.refusesArgument("0 and " + u, () -> x.twins(0, u));
            check.refusesArgument(u + " and 0", () -> x.twins(u, 0));
            check.refusesArgument(u + " twice", () -> x.twins(u, u));
        }
        root(x, 7);
        x.twins(0, 7);
        x.insert(7);
        x.insert(0);
        check.same("the least and the greatest", x.segment(2, 2), 1);
    }

    /** 3: "they are the same" */
    private static void twinsTheSame() {
        SegmentTrees x = new SegmentTrees();
        for (int t = 0; t < 8; t++) {
            int type = t;
            root(x, t);
            check.refusesArgument("type " + t, () -> x.twins(type, type));
        }
        x.insert(0);
        x.insert(0);
        check.same("no twin", x.segment(2, 2), 0);
    }

    /** 3: "or their lengths .. are not the same" */
    private static void twinsOfOtherLengths() {
        SegmentTrees x = new SegmentTrees();
        for (int length = 1; length <= 4; length++) {
            x.type(length, NONE, length, 0, false, true);
        }
        for (int t = 1; t <= 4; t++) {
            for (int u = 1; u <= 4; u++) {
                int one = t;
                int other = u;
                check.refusesArgument(t + " and " + u, () -> x.twins(one, other));
            }
        }
        x.type(0, NONE, 4, 0, false, true);
        x.twins(0, 4);
    }

    /** 3: "or sequences are not the same" */
    private static void twinsOfOtherSequences() {
        SegmentTrees x = new SegmentTrees();
        for (int sequence = NONE; sequence < 4; sequence++) {
            x.type(sequence + 1, NONE, 4, sequence, false, true);
        }
        for (int t = 0; t <= 4; t++) {
            for (int u = 0; u <= 4; u++) {
                int one = t;
                int other = u;
                check.refusesArgument(t + " and " + u, () -> x.twins(one, other));
            }
        }
        x.type(5, NONE, 4, 3, false, true);
        x.twins(5, 4);
    }

    /** 3: "or they have none" */
    private static void twinsWithoutASequence() {
        SegmentTrees x = new SegmentTrees();
        x.type(0, NONE, 2, NONE, true, true);
        x.type(1, NONE, 2, NONE, true, true);
        check.refusesArgument("both without", () -> x.twins(0, 1));
        check.refusesArgument("the other way", () -> x.twins(1, 0));
        x.insert(0);
        x.insert(1);
        check.same("no twin", x.segment(2, 2), 0);
    }

    /** 3: "IllegalStateException when one of them has a twin" */
    private static void twinsThatAreTaken() {
        SegmentTrees x = new SegmentTrees();
        for (int t = 0; t < 4; t++) {
            root(x, t);
        }
        x.twins(0, 1);
        for (int[] pair : new int[][] {{0, 1}, {1, 0}, {0, 2}, {2, 0}, {1, 2}, {2, 1}}) {
            check.refusesState(pair[0] + " and " + pair[1], () -> x.twins(pair[0], pair[1]));
        }
        x.twins(3, 2);
        for (int t = 0; t < 4; t++) {
            x.insert(t);
        }
        int[] due = {2, 1, 4, 3};
        for (int i = 0; i < 4; i++) {
            check.same("the twin of " + (i + 1), x.segment(i + 1, 2), due[i]);
        }
    }

    /** 3: nothing but lengths and sequences must be the same. */
    private static void twinsThatDifferElsewhere() {
        SegmentTrees x = new SegmentTrees();
        x.type(0, NONE, 2, 1, true, true);
        x.type(1, 0, 2, 1, false, false);
        x.twins(0, 1);
        x.insert(0);
        x.insert(1);
        check.same("a root and its child", x.segment(1, 2), 2);
    }

    /** 3: "or a segment was inserted" */
    private static void twinsAfterAnInsert() {
        SegmentTrees x = new SegmentTrees();
        root(x, 0);
        root(x, 1);
        x.insert(0);
        check.refusesState("one is there", () -> x.twins(0, 1));
        x.unique(true);
        x.delete();
        check.refusesState("one was there", () -> x.twins(0, 1));
        x.insert(0);
        x.insert(1);
        check.same("no twin", x.segment(3, 2), 0);
    }

    /** 4: "IllegalArgumentException when t is not declared" */
    private static void secondNotDeclared() {
        SegmentTrees x = new SegmentTrees();
        root(x, 0);
        x.type(7, 0, 1, 0, false, true);
        for (int t : new int[] {-1, 1, 6, 8, LEAST, GREATEST}) {
            check.refusesArgument("second " + t, () -> x.second(t, 0));
        }
        check.refusesState("none was named", () -> x.bySecond(true));
        x.second(7, 0);
        x.bySecond(true);
    }

    /** 4: "or a root type" */
    private static void secondOfARootType() {
        SegmentTrees x = new SegmentTrees();
        root(x, 0);
        x.type(1, 0, 1, 0, false, true);
        root(x, 2);
        check.refusesArgument("with a type below", () -> x.second(0, 0));
        check.refusesArgument("with none below", () -> x.second(2, 0));
        check.refusesState("none was named", () -> x.bySecond(true));
    }

    /** 4: "or has no such word" */
    private static void secondWords() {
        for (int length = 1; length <= 4; length++) {
            for (int named = 0; named < length; named++) {
                SegmentTrees x = new SegmentTrees();
                root(x, 0);
                x.type(1, 0, length, NONE, false, true);
                int beyond = length;
                for (int word : new int[] {-1, beyond, 4, LEAST, GREATEST}) {
                    check.refusesArgument("word " + word + " of " + length, () -> x.second(1, word));
                }
                check.refusesState("none was named", () -> x.bySecond(true));
                x.second(1, named);
                twoRootsWithOneChildEach(x, named);
                x.bySecond(true);
                check.order("by word " + named + " of " + length, x, 2, 4, 1, 3);
            }
        }
    }

    private static void twoRootsWithOneChildEach(SegmentTrees x, int word) {
        States.put(x, 0, 1);
        States.put(x, 0, 2);
        States.put(x, 1, 5, 5, 5, 5);
        x.path(0, 0, 1, 2);
        x.work(word, 4);
        x.insert(1);
        x.clearPath();
    }

    /** 4: "the roots above type t", which can be at the levels 2, 3 and 4 */
    private static void secondAtEachLevel() {
        for (int level = 2; level <= 4; level++) {
            SegmentTrees x = new SegmentTrees();
            for (int t = 0; t < level; t++) {
                x.type(t, t - 1, 1, 0, false, true);
            }
            x.second(level - 1, 0);
            States.put(x, 0, 1);
            States.put(x, 0, 2);
            x.path(0, 0, 1, 2);
            for (int t = 1; t < level; t++) {
                x.insert(t);
            }
            x.clearPath();
            x.bySecond(true);
            check.same("2 comes first by level " + level, x.unique(false), 2);
        }
    }

    /** 4: "IllegalStateException when a segment was inserted" */
    private static void secondAfterAnInsert() {
        SegmentTrees x = new SegmentTrees();
        root(x, 0);
        x.type(1, 0, 2, 0, false, true);
        x.second(1, 1);
        x.insert(0);
        check.refusesState("one is there", () -> x.second(1, 0));
        x.unique(true);
        x.delete();
        check.refusesState("one was there", () -> x.second(1, 0));
        twoRootsWithOneChildEach(x, 1);
        x.bySecond(true);
        check.order("by word 1 still", x, 3, 5, 2, 4);
    }
}
