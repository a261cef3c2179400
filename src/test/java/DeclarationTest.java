/** Promises 1 to 4: a new object, type, twins, second. */
public final class DeclarationTest {
    private static final int NONE = SegmentTrees.NONE;
    private static final Check check = new Check();

    public static void main(String[] args) {
        newObject();
        typeArguments();
        typeStates();
        typeLevels();
        typeArgumentsComeFirst();
        refusedTypeDeclaresNothing();
        childTypeWithLesserNumber();
        twinsArguments();
        twinsStates();
        refusedTwinsChangeNothing();
        secondArguments();
        secondStates();
        secondNamedAgain();
        check.end();
    }

    private static void newObject() {
        SegmentTrees x = new SegmentTrees();
        check.same("NONE", NONE, -1);
        check.same("new: count", x.count(), 0);
        check.same("new: at", x.at(), 0);
        check.same("new: place", x.place(), 0);
        check.same("new: unique", x.unique(true), 0);
        check.same("new: next", x.next(true), 0);
        check.same("new: segment", x.segment(0, 0), NONE);
        check.refusesState("new: within", () -> x.within(false));
        check.refusesState("new: fix", x::fix);
        check.refusesState("new: word", () -> x.word(0));
        check.refusesState("new: replace", x::replace);
        check.refusesState("new: delete", x::delete);
        check.refusesState("new: bySecond", () -> x.bySecond(false));
        for (int t = -1; t <= 8; t++) {
            int type = t;
            check.refusesArgument("new: insert " + t, () -> x.insert(type));
            check.refusesArgument("new: path " + t, () -> x.path(type, 0, 0, 0));
        }
        x.type(0, NONE, 4, NONE, false, false);
        x.insert(0);
        for (int i = 0; i < 4; i++) {
            check.same("new: word to work with " + i, x.word(i), 0);
        }
    }

    private static void typeArguments() {
        SegmentTrees x = new SegmentTrees();
        check.refusesArgument("t = -1", () -> x.type(-1, NONE, 1, 0, false, false));
        check.refusesArgument("t = 8", () -> x.type(8, NONE, 1, 0, false, false));
        check.refusesArgument("t least", () -> x.type(Integer.MIN_VALUE, NONE, 1, 0, false, false));
        check.refusesArgument("parent not declared", () -> x.type(0, 1, 1, 0, false, false));
        check.refusesArgument("parent itself", () -> x.type(0, 0, 1, 0, false, false));
        check.refusesArgument("parent = -2", () -> x.type(0, -2, 1, 0, false, false));
        check.refusesArgument("parent = 8", () -> x.type(0, 8, 1, 0, false, false));
        check.refusesArgument("length 0", () -> x.type(0, NONE, 0, NONE, false, false));
        check.refusesArgument("length 5", () -> x.type(0, NONE, 5, 0, false, false));
        check.refusesArgument("length -1", () -> x.type(0, NONE, -1, NONE, false, false));
        check.refusesArgument("sequence -2", () -> x.type(0, NONE, 4, -2, false, false));
        check.refusesArgument("sequence 4 of 4", () -> x.type(0, NONE, 4, 4, false, false));
        check.refusesArgument("sequence 1 of 1", () -> x.type(0, NONE, 1, 1, false, false));
        x.type(0, NONE, 4, 3, false, false);
        x.type(7, NONE, 1, 0, false, false);
        x.type(6, NONE, 1, NONE, false, false);
        check.same("types at the bounds", x.insert(0) + x.insert(7) + x.insert(6), 6);
    }

    private static void typeStates() {
        SegmentTrees x = new SegmentTrees();
        x.type(0, NONE, 1, 0, true, true);
        check.refusesState("declared", () -> x.type(0, NONE, 2, 1, false, false));
        check.same("the first declaration stays: inserted", x.insert(0), 1);
        check.same("the first declaration stays: unique", x.insert(0), -3);
        check.refusesIndex("the first declaration stays: length", () -> x.word(1));
        check.refusesState("inserted", () -> x.type(1, NONE, 1, 0, true, true));
        x.unique(true);
        x.delete();
        check.refusesState("inserted and deleted", () -> x.type(1, NONE, 1, 0, true, true));
        check.refusesArgument("type 1 was never declared", () -> x.insert(1));
    }

    private static void typeLevels() {
        SegmentTrees x = new SegmentTrees();
        x.type(0, NONE, 1, 0, false, true);
        for (int t = 1; t < 4; t++) {
            x.type(t, t - 1, 1, 0, false, true);
        }
        check.refusesArgument("level 5", () -> x.type(4, 3, 1, 0, false, true));
        x.type(4, 2, 1, 0, false, true);
        for (int t = 0; t < 5; t++) {
            x.insert(t);
        }
        check.same("level 1", x.segment(1, 3), 1);
        check.same("level 2", x.segment(2, 3), 2);
        check.same("level 3", x.segment(3, 3), 3);
        check.same("level 4", x.segment(4, 3), 4);
        check.same("another of level 4", x.segment(5, 3), 4);
    }

    private static void typeArgumentsComeFirst() {
        SegmentTrees x = new SegmentTrees();
        x.type(0, NONE, 1, 0, false, true);
        check.refusesArgument("declared, and wrong length", () -> x.type(0, NONE, 9, 0, true, true));
        check.refusesArgument("declared, and wrong parent", () -> x.type(0, 5, 1, 0, true, true));
        check.refusesState("declared, its own parent", () -> x.type(0, 0, 1, 0, true, true));
        x.insert(0);
        check.refusesArgument("inserted, and wrong sequence", () -> x.type(1, 0, 1, 1, true, true));
        check.refusesArgument("inserted, and wrong type", () -> x.type(8, 0, 1, 0, true, true));
    }

    private static void refusedTypeDeclaresNothing() {
        SegmentTrees x = new SegmentTrees();
        check.refusesArgument("wrong sequence", () -> x.type(3, NONE, 2, 2, false, false));
        check.refusesArgument("not declared by it", () -> x.insert(3));
        x.type(3, NONE, 2, 1, false, false);
        check.same("declared later", x.insert(3), 1);
    }

    private static void childTypeWithLesserNumber() {
        SegmentTrees x = new SegmentTrees();
        x.type(5, NONE, 1, 0, false, true);
        x.type(2, 5, 1, 0, false, true);
        x.type(7, 5, 1, 0, false, true);
        x.type(0, 2, 1, 0, false, true);
        x.type(3, NONE, 1, 0, false, true);
        x.insert(5);
        x.insert(7);
        x.insert(2);
        x.insert(0);
        x.insert(3);
        check.order("by types, a parent before its children", x, 5, 1, 3, 4, 2);
    }

    private static void twinsArguments() {
        SegmentTrees x = new SegmentTrees();
        x.type(0, NONE, 2, 0, false, true);
        x.type(1, 0, 2, 1, false, true);
        x.type(2, 0, 3, 0, false, true);
        x.type(3, 0, 2, NONE, false, true);
        x.type(4, 0, 2, NONE, false, true);
        check.refusesArgument("t not declared", () -> x.twins(7, 0));
        check.refusesArgument("u not declared", () -> x.twins(0, 7));
        check.refusesArgument("t out of bounds", () -> x.twins(-1, 0));
        check.refusesArgument("u out of bounds", () -> x.twins(0, 8));
        check.refusesArgument("the same", () -> x.twins(0, 0));
        check.refusesArgument("other lengths", () -> x.twins(0, 2));
        check.refusesArgument("other sequences", () -> x.twins(0, 1));
        check.refusesArgument("one without a sequence", () -> x.twins(0, 3));
        check.refusesArgument("both without a sequence", () -> x.twins(3, 4));
    }

    private static void twinsStates() {
        SegmentTrees x = new SegmentTrees();
        for (int t = 0; t < 4; t++) {
            x.type(t, NONE, 1, 0, false, true);
        }
        x.type(4, NONE, 2, 0, false, true);
        x.twins(0, 1);
        check.refusesState("both have one", () -> x.twins(1, 0));
        check.refusesState("the first has one", () -> x.twins(0, 2));
        check.refusesState("the other has one", () -> x.twins(2, 1));
        check.refusesArgument("arguments come first", () -> x.twins(0, 4));
        check.refusesArgument("the same comes first", () -> x.twins(0, 0));
        x.insert(0);
        check.refusesState("inserted", () -> x.twins(2, 3));
        check.refusesArgument("inserted, arguments come first", () -> x.twins(2, 4));
        x.insert(1);
        check.same("twin of the first", x.segment(1, 2), 2);
        check.same("twin of the other", x.segment(2, 2), 1);
        x.insert(2);
        x.insert(3);
        check.same("no twins by a refused call", x.segment(3, 2), 0);
    }

    private static void refusedTwinsChangeNothing() {
        SegmentTrees x = new SegmentTrees();
        for (int t = 0; t < 3; t++) {
            x.type(t, NONE, 1, 0, false, true);
        }
        x.twins(0, 1);
        check.refusesState("2 with 0", () -> x.twins(2, 0));
        x.insert(2);
        x.insert(0);
        check.same("0 is no twin of 2", x.segment(2, 2), 0);
        x.insert(1);
        check.same("0 is the twin of 1 still", x.segment(3, 2), 2);
    }

    private static void secondArguments() {
        SegmentTrees x = new SegmentTrees();
        x.type(0, NONE, 2, 0, false, true);
        x.type(1, 0, 2, 0, false, true);
        check.refusesArgument("not declared", () -> x.second(2, 0));
        check.refusesArgument("out of bounds", () -> x.second(8, 0));
        check.refusesArgument("below bounds", () -> x.second(-1, 0));
        check.refusesArgument("a root type", () -> x.second(0, 0));
        check.refusesArgument("no word 2", () -> x.second(1, 2));
        check.refusesArgument("no word -1", () -> x.second(1, -1));
        check.refusesState("none was named", () -> x.bySecond(true));
        x.second(1, 1);
        x.bySecond(true);
    }

    private static void secondStates() {
        SegmentTrees x = new SegmentTrees();
        x.type(0, NONE, 2, 0, false, true);
        x.type(1, 0, 2, 0, false, true);
        x.insert(0);
        check.refusesState("inserted", () -> x.second(1, 0));
        check.refusesArgument("inserted, arguments come first", () -> x.second(0, 0));
        check.refusesState("still none", () -> x.bySecond(false));
        x.unique(true);
        x.delete();
        check.refusesState("inserted and deleted", () -> x.second(1, 0));
    }

    private static void secondNamedAgain() {
        SegmentTrees x = new SegmentTrees();
        x.type(0, NONE, 1, 0, false, true);
        x.type(1, 0, 2, 0, false, true);
        x.second(1, 0);
        x.second(1, 1);
        x.bySecond(true);
        x.insert(0);
        x.work(0, 1);
        x.insert(0);
        x.path(0, 0, 1, 0);
        x.work(1, 9);
        x.insert(1);
        x.clearPath();
        x.path(0, 0, 1, 1);
        x.work(0, 5);
        x.work(1, 3);
        x.insert(1);
        x.clearPath();
        check.order("by the word named last", x, 2, 4, 1, 3);
    }
}
