/** The sentences on the position and the gets, in "Terms" and the promises 8 to 14, that name a boundary. */
public final class GetEdgeTest {
    private static final int NONE = SegmentTrees.NONE;
    private static final int LEAST = Integer.MIN_VALUE;
    private static final int GREATEST = Integer.MAX_VALUE;
    private static final Check check = new Check();

    public static void main(String[] args) {
        positionInFrontOfAll();
        positionAtTheFirst();
        positionAtTheLast();
        positionInFrontOfOne();
        positionInFrontOfTheFirst();
        positionBehindAll();
        positionWithNoneThere();
        behindInFrontOfOneIsThatOne();
        uniqueOfAll();
        uniqueWithNone();
        nextToTheEnd();
        nextWithNone();
        nextFromBehindAll();
        withinAtAnyLevel();
        withinIsNotTheParent();
        withinBehindThePosition();
        withinInFrontOfThePosition();
        withinALeaf();
        withinAllOf60();
        withinWithoutAFixedParent();
        withinAfterTheParentIsDeleted();
        withinAfterOneAboveIsDeleted();
        withinAfterOneBelowIsDeleted();
        withinAfterOthersAreDeleted();
        fixAtNone();
        fixAgain();
        fixKeepsThePosition();
        fixedParentStays();
        atNone();
        atAfterEachMove();
        placeOfEach();
        wordAtNone();
        wordBounds();
        check.end();
    }

    /** In the order 1: 2: 3: 4, 5 of the types 0 .. 3; 6: 7 of the types 0 and 1; 8 of type 4. */
    private static SegmentTrees filled() {
        SegmentTrees x = new SegmentTrees();
        for (int t = 0; t < 4; t++) {
            x.type(t, t - 1, t + 1, 0, false, true);
        }
        x.type(4, NONE, 1, 0, false, true);
        for (int t = 0; t < 4; t++) {
            x.insert(t);
        }
        x.insert(3);
        x.work(0, 1);
        x.insert(0);
        x.path(0, 0, 1, 1);
        x.insert(1);
        x.clearPath();
        x.insert(4);
        return x;
    }

    private static SegmentTrees onlyRoots(int many) {
        SegmentTrees x = new SegmentTrees();
        x.type(0, NONE, 1, NONE, false, true);
        for (int i = 0; i < many; i++) {
            x.insert(0);
        }
        return x;
    }

    private static void to(SegmentTrees x, int number) {
        int got = x.unique(true);
        for (int i = 0; i < 60 && got != number; i++) {
            got = x.next(true);
        }
        check.same("moved to " + number, x.at(), number);
    }

    private static void deleteAt(SegmentTrees x, int number) {
        to(x, number);
        x.delete();
    }

    /** "THE POSITION is in front of all" */
    private static void positionInFrontOfAll() {
        SegmentTrees x = new SegmentTrees();
        x.type(0, NONE, 1, 0, false, true);
        x.type(1, 0, 1, 0, false, true);
        x.second(1, 0);
        check.same("new: at none", x.at(), 0);
        x.insert(0);
        x.insert(0);
        x.bySecond(false);
        check.same("at none", x.at(), 0);
        check.same("none before", x.place(), 0);
        check.same("all are behind: the first", x.next(false), 1);
        check.same("and the second", x.next(false), 2);
    }

    /** "at a segment": the first one */
    private static void positionAtTheFirst() {
        SegmentTrees x = filled();
        x.unique(false);
        check.same("at it", x.at(), 1);
        check.same("none before", x.place(), 0);
        check.same("it is not behind itself", x.next(false), 2);
    }

    private static void positionAtTheLast() {
        SegmentTrees x = filled();
        to(x, 8);
        check.same("seven before", x.place(), 7);
        check.same("none behind", x.next(false), 0);
        check.same("at it still", x.at(), 8);
    }

    /** "or in front of a segment (or behind all) when one was deleted there" */
    private static void positionInFrontOfOne() {
        SegmentTrees x = filled();
        deleteAt(x, 4);
        check.same("at none", x.at(), 0);
        check.same("three before", x.place(), 3);
        check.same("5 is behind", x.next(false), 5);
    }

    private static void positionInFrontOfTheFirst() {
        SegmentTrees x = filled();
        deleteAt(x, 1);
        check.same("at none", x.at(), 0);
        check.same("none before", x.place(), 0);
        check.same("6 is behind", x.next(false), 6);
    }

    private static void positionBehindAll() {
        SegmentTrees x = filled();
        deleteAt(x, 8);
        check.same("at none", x.at(), 0);
        check.same("all seven before", x.place(), 7);
        check.same("none behind", x.next(false), 0);
        check.same("at none still", x.at(), 0);
        check.same("behind all still", x.place(), 7);
    }

    private static void positionWithNoneThere() {
        SegmentTrees x = onlyRoots(1);
        x.unique(true);
        x.delete();
        check.same("at none", x.at(), 0);
        check.same("none before", x.place(), 0);
        check.same("none behind", x.next(true), 0);
        check.same("none at all", x.unique(true), 0);
        check.same("inserted", x.insert(0), 2);
        check.same("at it", x.at(), 2);
    }

    /** "What is BEHIND a position: at a segment, those that come after it; in front of one, that and those after it." */
    private static void behindInFrontOfOneIsThatOne() {
        SegmentTrees x = filled();
        deleteAt(x, 2);
        x.path(0, 0, 0, 0);
        check.same("in front of 6, which is behind", x.next(false), 6);
        check.same("at 6, which is not", x.next(false), 0);
        x.clearPath();
        check.same("but 7 is", x.next(false), 7);
    }

    /** 8: "UNIQUE of all" */
    private static void uniqueOfAll() {
        SegmentTrees x = filled();
        for (int number : new int[] {1, 5, 8}) {
            to(x, number);
            check.same("from " + number, x.unique(false), 1);
        }
        to(x, 8);
        x.path(3, 0, 0, 0);
        check.same("in front of the position", x.unique(false), 4);
        check.same("over and over", x.unique(false), 4);
        deleteAt(x, 4);
        check.same("from in front of one", x.unique(false), 5);
        x.clearPath();
        deleteAt(x, 8);
        check.same("from behind all", x.unique(false), 1);
    }

    /** 8: "the number of the segment, 0 when there is none" */
    private static void uniqueWithNone() {
        check.same("new", new SegmentTrees().unique(true), 0);
        SegmentTrees x = filled();
        to(x, 4);
        x.path(4, 0, 1, 77);
        check.same("none that meets it", x.unique(false), 0);
        check.same("at 4 still", x.at(), 4);
    }

    /** 9: "NEXT of those behind the position" */
    private static void nextToTheEnd() {
        SegmentTrees x = onlyRoots(60);
        x.unique(false);
        for (int i = 2; i <= 60; i++) {
            check.same("next", x.next(false), i);
        }
        for (int i = 0; i < 3; i++) {
            check.same("no more", x.next(false), 0);
            check.same("at the last", x.at(), 60);
        }
    }

    private static void nextWithNone() {
        check.same("new", new SegmentTrees().next(true), 0);
        SegmentTrees x = filled();
        to(x, 5);
        x.path(3, 0, 0, 0);
        check.same("those in front do not count", x.next(false), 0);
        check.same("at 5 still", x.at(), 5);
        check.same("in its place", x.place(), 4);
    }

    private static void nextFromBehindAll() {
        SegmentTrees x = filled();
        deleteAt(x, 8);
        x.path(0, 0, 0, 0);
        check.same("none", x.next(false), 0);
        x.clearPath();
        check.same("none of any", x.next(false), 0);
        x.insert(4);
        check.same("none behind the one inserted", x.next(false), 0);
        check.same("at it", x.at(), 9);
    }

    /** 10: "WITHIN of those behind the position that are below the FIXED PARENT (at any level)" */
    private static void withinAtAnyLevel() {
        SegmentTrees x = filled();
        x.unique(false);
        x.fix();
        for (int number = 2; number <= 5; number++) {
            check.same("below 1", x.within(false), number);
        }
        check.same("6 is not", x.within(false), 0);
        check.same("at 5 still", x.at(), 5);
        for (int level = 2; level <= 4; level++) {
            x.unique(false);
            x.path(level - 1, 0, 0, 0);
            check.same("at level " + level, x.within(false), level);
            x.clearPath();
        }
        to(x, 3);
        x.fix();
        check.same("fixed at level 3: below it", x.within(false), 4);
        check.same("and below it", x.within(false), 5);
        check.same("and no more", x.within(false), 0);
    }

    private static void withinIsNotTheParent() {
        SegmentTrees x = filled();
        to(x, 6);
        x.fix();
        x.unique(false);
        check.same("7 is below 6", x.within(false), 7);
        x.unique(false);
        x.path(0, 0, 0, 0);
        check.same("6 is not", x.within(false), 0);
        check.same("at 1 still", x.at(), 1);
    }

    private static void withinBehindThePosition() {
        SegmentTrees x = filled();
        x.unique(false);
        x.fix();
        to(x, 5);
        check.same("at the last below it", x.within(false), 0);
        to(x, 8);
        check.same("behind all below it", x.within(false), 0);
        check.same("at 8 still", x.at(), 8);
        deleteAt(x, 4);
        check.same("in front of one below it", x.within(false), 5);
        deleteAt(x, 5);
        check.same("in front of one that is not", x.within(false), 0);
    }

    private static void withinInFrontOfThePosition() {
        SegmentTrees x = filled();
        to(x, 6);
        x.fix();
        x.unique(false);
        check.same("from far in front", x.within(false), 7);
        deleteAt(x, 1);
        check.same("from in front of it", x.within(false), 7);
    }

    private static void withinALeaf() {
        SegmentTrees x = filled();
        to(x, 5);
        x.fix();
        check.same("none is below", x.within(false), 0);
        x.unique(false);
        check.same("nor from the front", x.within(true), 0);
        check.same("at 1 still", x.at(), 1);
    }

    private static void withinAllOf60() {
        SegmentTrees x = new SegmentTrees();
        x.type(0, NONE, 1, 0, false, true);
        x.type(1, 0, 1, 0, false, true);
        x.insert(0);
        for (int i = 0; i < 59; i++) {
            x.insert(1);
        }
        x.unique(false);
        x.fix();
        for (int i = 2; i <= 60; i++) {
            check.same("within", x.within(false), i);
        }
        check.same("no more", x.within(false), 0);
    }

    /** 10: "IllegalStateException when no parent is fixed." */
    private static void withinWithoutAFixedParent() {
        for (boolean hold : new boolean[] {false, true}) {
            SegmentTrees x = new SegmentTrees();
            check.refusesState("new", () -> x.within(hold));
            SegmentTrees y = filled();
            check.refusesState("none was fixed", () -> y.within(hold));
            check.same("at 8 still", y.at(), 8);
        }
    }

    /** 11: "(until it is deleted)" */
    private static void withinAfterTheParentIsDeleted() {
        SegmentTrees x = filled();
        to(x, 2);
        x.fix();
        deleteAt(x, 2);
        check.refusesState("it is deleted", () -> x.within(false));
        x.next(false);
        check.refusesState("another is not fixed by that", () -> x.within(false));
        check.same("but by this", x.fix(), 6);
        check.same("7 is below 6", x.within(false), 7);
    }

    private static void withinAfterOneAboveIsDeleted() {
        for (int fixed = 2; fixed <= 5; fixed++) {
            SegmentTrees x = filled();
            to(x, fixed);
            x.fix();
            deleteAt(x, 1);
            check.refusesState(fixed + " is deleted with 1", () -> x.within(false));
        }
    }

    private static void withinAfterOneBelowIsDeleted() {
        SegmentTrees x = filled();
        x.unique(false);
        x.fix();
        deleteAt(x, 3);
        check.same("1 is fixed, none is behind", x.within(false), 0);
        x.unique(false);
        check.same("2 is left", x.within(false), 2);
        check.same("alone", x.within(false), 0);
        deleteAt(x, 2);
        check.same("fixed with none below", x.within(false), 0);
    }

    private static void withinAfterOthersAreDeleted() {
        SegmentTrees x = filled();
        to(x, 6);
        x.fix();
        deleteAt(x, 1);
        deleteAt(x, 8);
        x.unique(false);
        check.same("6 is fixed still", x.within(false), 7);
    }

    /** 11: "IllegalStateException when the position is at none." */
    private static void fixAtNone() {
        SegmentTrees x = new SegmentTrees();
        check.refusesState("new", x::fix);
        SegmentTrees y = filled();
        to(y, 6);
        y.fix();
        deleteAt(y, 1);
        check.refusesState("in front of one", y::fix);
        check.same("6 is fixed still", y.within(false), 7);
        deleteAt(y, 8);
        check.refusesState("behind all", y::fix);
        y.unique(false);
        check.same("6 is fixed even then", y.within(false), 7);
    }

    /** 11: "The segment at the position is the fixed parent: its number." */
    private static void fixAgain() {
        SegmentTrees x = filled();
        for (int number = 1; number <= 8; number++) {
            to(x, number);
            check.same("fixed", x.fix(), number);
            check.same("and again", x.fix(), number);
        }
        to(x, 6);
        x.fix();
        x.unique(false);
        check.same("the one fixed last", x.within(false), 7);
    }

    private static void fixKeepsThePosition() {
        SegmentTrees x = filled();
        to(x, 5);
        x.fix();
        check.same("at", x.at(), 5);
        check.same("place", x.place(), 4);
        check.same("next", x.next(false), 6);
    }

    private static void fixedParentStays() {
        SegmentTrees x = filled();
        x.unique(false);
        x.fix();
        x.path(4, 0, 0, 0);
        x.unique(false);
        x.clearPath();
        x.insert(4);
        x.unique(true);
        x.replace();
        x.insert(1);
        x.unique(false);
        x.path(1, 0, 1, 1);
        check.same("one inserted below it later is below it", x.within(false), 10);
    }

    /** 12: "0 when it is at none" */
    private static void atNone() {
        SegmentTrees x = new SegmentTrees();
        check.same("new", x.at(), 0);
        SegmentTrees y = filled();
        deleteAt(y, 3);
        check.same("in front of one", y.at(), 0);
        deleteAt(y, 8);
        check.same("behind all", y.at(), 0);
    }

    /** 12: "The number of the segment at the position" */
    private static void atAfterEachMove() {
        SegmentTrees x = onlyRoots(60);
        check.same("inserted last", x.at(), 60);
        check.same("refused", x.insert(0), -4);
        check.same("at it still", x.at(), 60);
        x.unique(false);
        check.same("unique", x.at(), 1);
        x.next(false);
        check.same("next", x.at(), 2);
        check.same("asked again", x.at(), 2);
    }

    /** 13: "How many segments come before the position" */
    private static void placeOfEach() {
        SegmentTrees x = onlyRoots(60);
        check.same("the last of all that can be there", x.place(), 59);
        x.unique(false);
        for (int i = 0; i < 60; i++) {
            check.same("place", x.place(), i);
            x.next(false);
        }
        x.unique(true);
        x.delete();
        check.same("in front of the first", x.place(), 0);
        to(x, 60);
        x.delete();
        check.same("behind all", x.place(), 58);
        to(x, 30);
        x.delete();
        check.same("in front of 31", x.place(), 28);
        check.same("none before the first place", new SegmentTrees().place(), 0);
    }

    /** 14: "IllegalStateException when it is at none" */
    private static void wordAtNone() {
        for (int i : new int[] {-1, 0, 3, 4, LEAST, GREATEST}) {
            SegmentTrees x = new SegmentTrees();
            check.refusesState("new: word " + i, () -> x.word(i));
            SegmentTrees y = filled();
            deleteAt(y, 3);
            check.refusesState("in front of one: word " + i, () -> y.word(i));
            deleteAt(y, 8);
            check.refusesState("behind all: word " + i, () -> y.word(i));
        }
    }

    /** 14: "IndexOutOfBoundsException when it has no such word" */
    private static void wordBounds() {
        SegmentTrees x = filled();
        for (int length = 1; length <= 4; length++) {
            to(x, length);
            int beyond = length;
            for (int i : new int[] {-1, beyond, LEAST, GREATEST}) {
                check.refusesIndex("word " + i + " of " + length, () -> x.word(i));
            }
            check.same("the first word", x.word(0), 0);
            check.same("the last word", x.word(length - 1), 0);
            check.same("at it still", x.at(), length);
        }
    }
}
