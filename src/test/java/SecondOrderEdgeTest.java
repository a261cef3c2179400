/** The sentences on the second order, in "Terms" and promise 18, that name a boundary. */
public final class SecondOrderEdgeTest {
    private static final int NONE = SegmentTrees.NONE;
    private static final int LEAST = Integer.MIN_VALUE;
    private static final int GREATEST = Integer.MAX_VALUE;
    private static final Check check = new Check();

    public static void main(String[] args) {
        atFirstItIsNotOn();
        rootsOfOneTypeAlone();
        whatIsBelowKeepsItsOrder();
        leastAndGreatestValues();
        leastOfAll();
        noneLast();
        noneOfAll();
        sameValueByNumbers();
        notByTheSequenceAnyMore();
        otherWordsAndTypesDoNotCount();
        valueOfItsOwnTreeAlone();
        valueThatComesAndGoes();
        nothingThere();
        sixtyRoots();
        sixtyInTrees();
        turnedOnAndOnAgain();
        turnedOffWhenOff();
        positionAfterTurning();
        turningKeepsAllElse();
        refusedWithoutOne();
        namedAgainWhileOn();
        insertedWhileOn();
        deletedWhileOn();
        deletedInFrontOfOneThatMoved();
        placeInTheOrderThereIsNow();
        check.end();
    }

    private static int put(SegmentTrees x, int t, int... words) {
        return States.put(x, t, words);
    }

    /** Roots of the types 0, 1 and 2; 3 and 4 below 1, 5 below 3; the order is by word 1 of type 3. */
    private static SegmentTrees declared() {
        SegmentTrees x = new SegmentTrees();
        for (int t = 0; t < 3; t++) {
            x.type(t, NONE, 1, 0, false, true);
        }
        x.type(3, 1, 2, 0, false, true);
        x.type(4, 1, 2, 0, false, true);
        x.type(5, 3, 2, 0, false, true);
        x.second(3, 1);
        return x;
    }

    /** Roots 1 .. so many of type 1, with their numbers as words. */
    private static SegmentTrees roots(int many) {
        SegmentTrees x = declared();
        for (int i = 1; i <= many; i++) {
            put(x, 1, i);
        }
        return x;
    }

    /** A child of type t below the root of type 1 with a word. */
    private static int below(SegmentTrees x, int root, int t, int... words) {
        x.clearPath();
        x.path(1, 0, 1, root);
        int number = put(x, t, words);
        x.clearPath();
        return number;
    }

    /** "BY THE SECOND ORDER (when it is on; at first it is not)" */
    private static void atFirstItIsNotOn() {
        SegmentTrees x = roots(2);
        below(x, 2, 3, 0, 0);
        check.order("named, but not on", x, 1, 2, 3);
        x.bySecond(true);
        check.order("on", x, 2, 3, 1);
        x.bySecond(false);
        check.order("off", x, 1, 2, 3);
    }

    /** "the roots of one type (that above the type which second() names)" */
    private static void rootsOfOneTypeAlone() {
        SegmentTrees x = declared();
        for (int t = 2; t >= 0; t--) {
            put(x, t, 9);
            put(x, t, 8);
        }
        x.bySecond(true);
        check.order("type 1 by numbers, 0 and 2 by sequence", x, 6, 5, 3, 4, 2, 1);
    }

    private static void whatIsBelowKeepsItsOrder() {
        SegmentTrees x = roots(2);
        below(x, 1, 3, 5, 2);
        below(x, 1, 3, 4, 7);
        below(x, 1, 4, 3, -9);
        below(x, 2, 3, 8, 1);
        below(x, 2, 3, 7, 6);
        check.order("off", x, 1, 4, 3, 5, 2, 7, 6);
        x.bySecond(true);
        check.order("the trees change places whole", x, 2, 7, 6, 1, 4, 3, 5);
    }

    /** "come by a VALUE instead", signed, least and greatest */
    private static void leastAndGreatestValues() {
        SegmentTrees x = roots(6);
        int[] values = {GREATEST, 0, LEAST, -1, 1, LEAST + 1};
        for (int i = 0; i < 6; i++) {
            below(x, i + 1, 3, 0, values[i]);
        }
        x.bySecond(true);
        x.path(1, 0, 0, 0);
        check.order("by values", x, 3, 6, 4, 2, 5, 1);
    }

    /** "the least one that the word named there has in the segments of that type below them" */
    private static void leastOfAll() {
        SegmentTrees x = roots(2);
        for (int v : new int[] {5, GREATEST, 3, 4}) {
            below(x, 1, 3, v, v);
        }
        for (int v : new int[] {GREATEST, 2, GREATEST}) {
            below(x, 2, 3, v, v);
        }
        x.bySecond(true);
        x.path(1, 0, 0, 0);
        check.order("2 before 3", x, 2, 1);
        below(x, 1, 3, 9, LEAST);
        x.path(1, 0, 0, 0);
        check.order("the least int before 2", x, 1, 2);
    }

    /** "those that have none last" */
    private static void noneLast() {
        SegmentTrees x = roots(4);
        below(x, 2, 3, 0, GREATEST);
        below(x, 4, 3, 0, GREATEST);
        below(x, 3, 4, LEAST, LEAST);
        x.bySecond(true);
        x.path(1, 0, 0, 0);
        check.order("behind the greatest int too", x, 2, 4, 1, 3);
    }

    /** "(or none) by their numbers" */
    private static void noneOfAll() {
        SegmentTrees x = declared();
        for (int word : new int[] {5, 9, 1, 5}) {
            put(x, 1, word);
        }
        check.order("by sequence", x, 3, 1, 4, 2);
        x.bySecond(true);
        check.order("by numbers", x, 1, 2, 3, 4);
    }

    /** "with the same value .. by their numbers" */
    private static void sameValueByNumbers() {
        for (int value : new int[] {LEAST, 0, GREATEST}) {
            SegmentTrees x = declared();
            put(x, 1, 3);
            put(x, 1, 2);
            put(x, 1, 1);
            for (int word = 1; word <= 3; word++) {
                below(x, word, 3, 0, value);
            }
            x.bySecond(true);
            x.path(1, 0, 0, 0);
            check.order("value " + value, x, 1, 2, 3);
        }
    }

    private static void notByTheSequenceAnyMore() {
        SegmentTrees x = new SegmentTrees();
        x.type(0, NONE, 1, 0, false, false);
        x.type(1, 0, 1, 0, false, true);
        x.second(1, 0);
        put(x, 0, 5);
        put(x, 0, 5);
        check.order("ties first", x, 2, 1);
        x.bySecond(true);
        check.order("by numbers", x, 1, 2);
        put(x, 0, LEAST);
        check.order("a new one, by its number", x, 1, 2, 3);
        x.bySecond(false);
        check.order("as its sequence is", x, 3, 2, 1);
    }

    private static void otherWordsAndTypesDoNotCount() {
        SegmentTrees x = roots(3);
        below(x, 1, 3, 0, 2);
        below(x, 2, 3, -5, 3);
        below(x, 2, 4, -5, -5);
        below(x, 2, 5, -5, -5);
        below(x, 3, 3, 7, 1);
        x.bySecond(true);
        x.path(1, 0, 0, 0);
        check.order("by word 1 of type 3 alone", x, 3, 1, 2);
    }

    private static void valueOfItsOwnTreeAlone() {
        SegmentTrees x = roots(3);
        below(x, 2, 3, 0, 4);
        x.bySecond(true);
        check.order("1 and 3 have none", x, 2, 4, 1, 3);
    }

    private static void valueThatComesAndGoes() {
        SegmentTrees x = roots(2);
        x.bySecond(true);
        below(x, 2, 3, 0, GREATEST);
        check.order("it comes", x, 2, 3, 1);
        x.path(3, 0, 0, 0);
        x.unique(true);
        x.delete();
        x.clearPath();
        check.order("it goes", x, 1, 2);
    }

    private static void nothingThere() {
        SegmentTrees x = declared();
        x.bySecond(true);
        check.order("no segment", x);
        check.same("no place", x.place(), 0);
        put(x, 0, 1);
        put(x, 2, 1);
        check.order("none of the type", x, 1, 2);
        x.path(0, 0, 0, 0);
        x.unique(true);
        x.delete();
        x.clearPath();
        check.order("one of another type", x, 2);
    }

    private static void sixtyRoots() {
        SegmentTrees x = declared();
        for (int i = 1; i <= 60; i++) {
            put(x, 1, -i);
        }
        check.same("by sequence the last one is the first", x.unique(false), 60);
        x.bySecond(true);
        for (int i = 1; i <= 60; i++) {
            check.same("by numbers", x.next(false), i);
        }
        check.same("no more", x.next(false), 0);
    }

    private static void sixtyInTrees() {
        SegmentTrees x = roots(30);
        for (int i = 1; i <= 30; i++) {
            below(x, i, 3, 0, -i);
        }
        x.bySecond(true);
        for (int i = 30; i >= 1; i--) {
            check.same("root", x.next(false), i);
            check.same("what is below it", x.next(false), 30 + i);
        }
        check.same("no more", x.next(false), 0);
    }

    /** 18: "The second order is on or off" */
    private static void turnedOnAndOnAgain() {
        SegmentTrees x = roots(2);
        below(x, 2, 3, 0, 0);
        x.bySecond(true);
        x.bySecond(true);
        check.order("on", x, 2, 3, 1);
        x.bySecond(false);
        x.bySecond(false);
        check.order("off", x, 1, 2, 3);
    }

    private static void turnedOffWhenOff() {
        SegmentTrees x = roots(2);
        x.bySecond(false);
        check.same("at none", x.at(), 0);
        check.order("off", x, 1, 2);
    }

    /** 18: "the position is in front of all" */
    private static void positionAfterTurning() {
        for (boolean on : new boolean[] {false, true}) {
            SegmentTrees x = roots(4);
            x.bySecond(on);
            isInFrontOfAll("from one", x);
            check.same("the first one is behind", x.next(true), 1);
            x.bySecond(on);
            check.refusesState("held no more", x::delete);
            x.next(true);
            x.delete();
            x.next(true);
            x.delete();
            x.bySecond(on);
            isInFrontOfAll("from in front of one", x);
            x.next(false);
            x.next(true);
            x.delete();
            check.same("behind all", x.place(), 1);
            x.bySecond(on);
            isInFrontOfAll("from behind all", x);
            check.same("the last one left", x.next(true), 3);
            x.delete();
            x.bySecond(on);
            isInFrontOfAll("with none there", x);
        }
    }

    private static void isInFrontOfAll(String what, SegmentTrees x) {
        check.same(what + ": at none", x.at(), 0);
        check.same(what + ": none before", x.place(), 0);
        check.refusesState(what + ": none to fix", x::fix);
        check.refusesState(what + ": no word", () -> x.word(0));
    }

    private static void turningKeepsAllElse() {
        SegmentTrees x = roots(2);
        below(x, 2, 3, 0, 0);
        x.path(1, 0, 1, 2);
        x.unique(false);
        x.fix();
        x.path(3, 0, 0, 0);
        x.work(0, 77);
        x.bySecond(true);
        check.same("the fixed parent and the path stay", x.within(false), 3);
        check.same("three are there", x.count(), 3);
        x.insert(0);
        check.same("the word to work with stays", x.word(0), 77);
        x.bySecond(false);
        check.same("they stay again", x.within(false), 3);
    }

    /** 18: "IllegalStateException when there is none." */
    private static void refusedWithoutOne() {
        SegmentTrees x = new SegmentTrees();
        x.type(0, NONE, 1, 0, false, true);
        x.type(1, 0, 1, 0, false, true);
        check.refusesArgument("none is named", () -> x.second(0, 0));
        for (boolean on : new boolean[] {false, true}) {
            check.refusesState("no segments", () -> x.bySecond(on));
        }
        x.insert(0);
        check.refusesState("too late", () -> x.second(1, 0));
        for (boolean on : new boolean[] {false, true}) {
            check.refusesState("with a segment", () -> x.bySecond(on));
            check.same("the position stays", x.at(), 1);
        }
    }

    private static void namedAgainWhileOn() {
        SegmentTrees x = declared();
        x.bySecond(true);
        x.second(4, 0);
        put(x, 1, 1);
        put(x, 1, 2);
        below(x, 1, 3, 0, LEAST);
        below(x, 2, 4, 5, 5);
        check.order("on, by the one named last", x, 2, 4, 1, 3);
        x.bySecond(false);
        check.order("off", x, 1, 3, 2, 4);
    }

    private static void insertedWhileOn() {
        SegmentTrees x = roots(2);
        x.bySecond(true);
        check.same("below the first one", put(x, 3, 0, 5), 3);
        check.same("that is 1", x.segment(3, 1), 1);
        below(x, 2, 3, 0, 4);
        check.same("at the one inserted", x.at(), 4);
        check.same("one comes before it now", x.place(), 1);
        check.same("below the first one now", put(x, 3, 1, 9), 5);
        check.same("that is 2", x.segment(5, 1), 2);
        x.bySecond(false);
        check.same("below the first by sequence", put(x, 3, 1, 9), 6);
        check.same("that is 1 again", x.segment(6, 1), 1);
    }

    /** 17: "in front of the next segment behind them in the order there is before" */
    private static void deletedWhileOn() {
        SegmentTrees x = roots(3);
        below(x, 3, 3, 0, 1);
        below(x, 1, 3, 0, 2);
        x.bySecond(true);
        check.order("before", x, 3, 4, 1, 5, 2);
        x.path(1, 0, 1, 1);
        x.unique(true);
        check.same("1 and 5", x.delete(), 2);
        x.clearPath();
        check.same("3 and 4 come before", x.place(), 2);
        check.same("2 is next, which is in front of 3 by sequence", x.next(false), 2);
    }

    private static void deletedInFrontOfOneThatMoved() {
        SegmentTrees x = roots(3);
        below(x, 1, 3, 0, 1);
        below(x, 1, 4, 0, 0);
        below(x, 2, 3, 0, 2);
        x.bySecond(true);
        check.order("before", x, 1, 4, 5, 2, 6, 3);
        x.path(3, 1, 1, 1);
        x.unique(true);
        x.delete();
        x.clearPath();
        check.same("in front of 5, which went behind 2 with its root", x.place(), 3);
        check.same("at none", x.at(), 0);
        check.same("5 is next", x.next(false), 5);
        check.same("and then 3", x.next(false), 3);
    }

    /** 13: "How many segments come before the position, in the order there is now." */
    private static void placeInTheOrderThereIsNow() {
        SegmentTrees x = roots(3);
        below(x, 3, 3, 0, 6);
        below(x, 2, 3, 0, 5);
        x.bySecond(true);
        x.path(3, 1, 1, 5);
        x.unique(true);
        check.order("5 is met alone", x, 5);
        check.same("one before", x.place(), 1);
        x.unique(true);
        x.work(1, 7);
        check.isTrue("replaced", x.replace());
        check.same("at it still", x.at(), 5);
        check.same("three before it now", x.place(), 3);
    }
}
