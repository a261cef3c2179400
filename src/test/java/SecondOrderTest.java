/** Promises 4 and 18: the second order of the roots, on and off, and what changes it. */
public final class SecondOrderTest {
    private static final int NONE = SegmentTrees.NONE;
    private static final Check check = new Check();

    public static void main(String[] args) {
        needsASecondOrder();
        leastValueDecides();
        rootsOfOtherTypesStay();
        greatestValueIsBeforeNone();
        positionInFrontOfAll();
        turnedOnBeforeInserts();
        insertMovesItsRoot();
        insertFindsItsParentByIt();
        twinMovesARoot();
        replaceMovesARoot();
        deleteMovesARoot();
        deletedBehindAllByIt();
        valueFarBelow();
        otherTypesDoNotCount();
        uniqueByNumbersStill();
        check.end();
    }

    /** Root types 0, 3 and 5; 1 below 3, 2 below 1; 4 below 0, the twin of 1; ordered by 1's word 1. */
    private static SegmentTrees declared() {
        SegmentTrees x = new SegmentTrees();
        x.type(0, NONE, 1, 0, false, true);
        x.type(3, NONE, 1, 0, false, true);
        x.type(5, NONE, 1, 0, false, true);
        x.type(1, 3, 2, 0, false, true);
        x.type(2, 1, 1, 0, false, true);
        x.type(4, 0, 2, 0, false, true);
        x.twins(1, 4);
        x.second(1, 1);
        return x;
    }

    private static int put(SegmentTrees x, int t, int first, int other) {
        x.work(0, first);
        x.work(1, other);
        return x.insert(t);
    }

    private static int putBelow(SegmentTrees x, int root, int t, int first, int other) {
        x.clearPath();
        x.path(3, 0, 1, root);
        int number = put(x, t, first, other);
        x.clearPath();
        return number;
    }

    /** Roots 1, 2 and 3 of type 3 with sequences 1, 2 and 3. */
    private static SegmentTrees threeRoots() {
        SegmentTrees x = declared();
        for (int i = 1; i <= 3; i++) {
            put(x, 3, i, 0);
        }
        return x;
    }

    private static void needsASecondOrder() {
        SegmentTrees x = new SegmentTrees();
        x.type(0, NONE, 1, 0, false, true);
        x.insert(0);
        check.refusesState("on", () -> x.bySecond(true));
        check.refusesState("off", () -> x.bySecond(false));
        check.same("the position stays", x.at(), 1);
    }

    private static void leastValueDecides() {
        SegmentTrees x = threeRoots();
        putBelow(x, 1, 1, 0, 8);
        putBelow(x, 1, 1, 1, 6);
        putBelow(x, 2, 1, 0, 9);
        putBelow(x, 2, 1, 1, 5);
        putBelow(x, 2, 1, 2, 7);
        check.order("off at first", x, 1, 4, 5, 2, 6, 7, 8, 3);
        x.bySecond(true);
        check.order("on", x, 2, 6, 7, 8, 1, 4, 5, 3);
        x.bySecond(false);
        check.order("off again", x, 1, 4, 5, 2, 6, 7, 8, 3);
        x.bySecond(true);
        putBelow(x, 3, 1, 0, -5);
        check.order("three values", x, 3, 9, 2, 6, 7, 8, 1, 4, 5);
    }

    private static void rootsOfOtherTypesStay() {
        SegmentTrees x = threeRoots();
        put(x, 5, 9, 0);
        put(x, 5, 1, 0);
        put(x, 0, 7, 0);
        put(x, 0, 2, 0);
        putBelow(x, 3, 1, 0, 0);
        put(x, 4, 5, 0);
        x.bySecond(true);
        check.order("types first", x, 7, 9, 6, 3, 8, 1, 2, 5, 4);
    }

    private static void greatestValueIsBeforeNone() {
        SegmentTrees x = declared();
        put(x, 3, 3, 0);
        put(x, 3, 2, 0);
        put(x, 3, 1, 0);
        put(x, 3, 0, 0);
        putBelow(x, 1, 1, 0, Integer.MAX_VALUE);
        putBelow(x, 0, 1, 0, Integer.MIN_VALUE);
        x.bySecond(true);
        check.order("none last, by numbers", x, 4, 6, 3, 5, 1, 2);
        putBelow(x, 2, 1, 0, Integer.MAX_VALUE);
        check.order("the same value, by numbers", x, 4, 6, 2, 7, 3, 5, 1);
    }

    private static void positionInFrontOfAll() {
        SegmentTrees x = threeRoots();
        check.same("at the last", x.place(), 2);
        x.bySecond(false);
        check.same("at none", x.at(), 0);
        check.same("in front of all", x.place(), 0);
        check.same("the first", x.next(false), 1);
        check.same("fixed", x.fix(), 1);
        x.bySecond(true);
        check.same("at none again", x.at(), 0);
        check.same("in front of all again", x.next(false), 1);
        x.bySecond(true);
        check.same("on when it is on", x.at(), 0);
        check.same("the parent stays fixed", x.within(false), 0);
    }

    private static void turnedOnBeforeInserts() {
        SegmentTrees x = declared();
        x.bySecond(true);
        put(x, 3, 9, 0);
        put(x, 3, 1, 0);
        check.order("by numbers, not by sequence", x, 1, 2);
        check.same("two", x.count(), 2);
        x.bySecond(false);
        check.order("by sequence", x, 2, 1);
    }

    private static void insertMovesItsRoot() {
        SegmentTrees x = threeRoots();
        x.bySecond(true);
        putBelow(x, 2, 1, 0, 4);
        check.same("at the one inserted", x.at(), 4);
        check.same("its place is the new one", x.place(), 1);
        check.same("behind it", x.next(false), 1);
        putBelow(x, 3, 1, 0, 3);
        check.same("its place in front", x.place(), 1);
        check.order("moved", x, 3, 5, 2, 4, 1);
    }

    private static void insertFindsItsParentByIt() {
        SegmentTrees x = threeRoots();
        putBelow(x, 3, 1, 0, 1);
        x.bySecond(true);
        put(x, 1, 1, 2);
        check.same("the first in the order there is now", x.segment(5, 1), 3);
        x.bySecond(false);
        put(x, 1, 1, 0);
        check.same("the first by sequence", x.segment(6, 1), 1);
        x.bySecond(true);
        put(x, 1, 1, 2);
        check.same("by the new values", x.segment(7, 1), 1);
    }

    private static void twinMovesARoot() {
        SegmentTrees x = threeRoots();
        put(x, 0, 0, 0);
        putBelow(x, 1, 1, 7, 5);
        putBelow(x, 2, 1, 8, 6);
        x.bySecond(true);
        check.order("before", x, 4, 1, 5, 2, 6, 3);
        put(x, 4, 8, 1);
        check.same("twins", x.segment(6, 2), 7);
        check.order("the twin's new word moves its root", x, 4, 7, 2, 6, 1, 5, 3);
        x.path(4, 0, 0, 0);
        x.unique(true);
        x.work(1, 9);
        check.isTrue("replaced", x.replace());
        x.clearPath();
        check.order("and back by a replace", x, 4, 7, 1, 5, 2, 6, 3);
    }

    private static void replaceMovesARoot() {
        SegmentTrees x = threeRoots();
        putBelow(x, 1, 1, 0, 5);
        putBelow(x, 2, 1, 0, 6);
        x.bySecond(true);
        x.path(1, 1, 1, 6);
        check.same("held", x.unique(true), 5);
        check.same("its place", x.at(), 5);
        x.work(0, 0);
        x.work(1, 4);
        check.isTrue("replaced", x.replace());
        check.same("the position is at it still", x.at(), 5);
        check.same("in its new place", x.place(), 1);
        x.clearPath();
        check.same("behind it", x.next(false), 1);
        check.order("moved", x, 2, 5, 1, 4, 3);
    }

    private static void deleteMovesARoot() {
        SegmentTrees x = threeRoots();
        putBelow(x, 1, 1, 0, 5);
        putBelow(x, 2, 1, 0, 6);
        putBelow(x, 3, 1, 0, 7);
        x.bySecond(true);
        check.order("before", x, 1, 4, 2, 5, 3, 6);
        x.path(1, 1, 1, 5);
        x.unique(true);
        check.same("the only one below its root", x.delete(), 1);
        x.clearPath();
        check.same("in front of 2, which is the first now", x.place(), 0);
        check.same("that is behind", x.next(false), 2);
        check.order("moved", x, 2, 5, 3, 6, 1);
    }

    private static void deletedBehindAllByIt() {
        SegmentTrees x = threeRoots();
        putBelow(x, 1, 1, 0, 5);
        putBelow(x, 1, 1, 1, 9);
        putBelow(x, 2, 1, 0, 6);
        putBelow(x, 3, 1, 0, 7);
        x.bySecond(true);
        x.path(1, 1, 1, 5);
        x.unique(true);
        x.delete();
        x.clearPath();
        check.same("in front of 5, in its new place", x.place(), 5);
        check.same("that is behind", x.next(true), 5);
        x.delete();
        check.same("behind all", x.place(), 5);
        check.same("none is there", x.next(false), 0);
    }

    private static void valueFarBelow() {
        SegmentTrees x = new SegmentTrees();
        x.type(7, NONE, 1, 0, false, true);
        for (int t = 6; t > 3; t--) {
            x.type(t, t + 1, 1, 0, false, true);
        }
        x.second(4, 0);
        for (int i = 1; i <= 2; i++) {
            x.work(0, i);
            x.insert(7);
        }
        for (int t = 6; t > 3; t--) {
            x.clearPath();
            x.path(7, 0, 1, 2);
            x.work(0, -t);
            x.insert(t);
        }
        x.clearPath();
        x.bySecond(true);
        check.order("by level 4", x, 2, 3, 4, 5, 1);
        x.work(0, -9);
        x.path(7, 0, 1, 1);
        x.insert(6);
        x.clearPath();
        check.order("other types below are not looked at", x, 2, 3, 4, 5, 1, 6);
    }

    private static void otherTypesDoNotCount() {
        SegmentTrees x = new SegmentTrees();
        x.type(0, NONE, 1, 0, false, true);
        x.type(1, 0, 1, 0, false, true);
        x.type(2, 0, 1, 0, false, true);
        x.second(2, 0);
        put(x, 0, 1, 0);
        put(x, 0, 2, 0);
        x.path(0, 0, 1, 1);
        put(x, 2, 5, 0);
        x.clearPath();
        x.path(0, 0, 1, 2);
        put(x, 1, -5, 0);
        put(x, 2, 6, 0);
        x.clearPath();
        x.bySecond(true);
        check.order("type 1 has the least word", x, 1, 3, 2, 4, 5);
    }

    private static void uniqueByNumbersStill() {
        SegmentTrees x = new SegmentTrees();
        x.type(0, NONE, 1, 0, true, true);
        x.type(1, 0, 1, 0, false, true);
        x.second(1, 0);
        x.bySecond(true);
        put(x, 0, 5, 0);
        check.same("unique roots", put(x, 0, 5, 0), -3);
    }
}
