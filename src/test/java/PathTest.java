/** Promises 5 and 6: clearPath and path, and what meets a path. */
public final class PathTest {
    private static final int NONE = SegmentTrees.NONE;
    private static final Check check = new Check();

    public static void main(String[] args) {
        arguments();
        refusedPathStatesNothing();
        operations();
        operationsAtTheEdges();
        statedByTypeAlone();
        lowestLevelDecides();
        levelsAboveDecide();
        levelWithAnotherType();
        atMostThreeConditions();
        allConditionsHold();
        clearing();
        pathStays();
        check.end();
    }

    /** Two root types 0 and 3; 1 and 4 below 0; 2 below 1; each word is 10 times the number or so. */
    private static SegmentTrees declared() {
        SegmentTrees x = new SegmentTrees();
        x.type(0, NONE, 2, 0, false, true);
        x.type(1, 0, 2, 0, false, true);
        x.type(2, 1, 2, 0, false, true);
        x.type(3, NONE, 1, 0, false, true);
        x.type(4, 0, 1, NONE, false, true);
        return x;
    }

    private static int put(SegmentTrees x, int t, int first, int other) {
        x.work(0, first);
        x.work(1, other);
        return x.insert(t);
    }

    /** 1 (type 0, 1/10): 2 (type 1, 1/10): 3 (type 2, 1/10); 4 (type 4); 5 (type 0, 2/20): 6, 7; 8 (type 3). */
    private static SegmentTrees filled() {
        SegmentTrees x = declared();
        put(x, 0, 1, 10);
        put(x, 1, 1, 10);
        put(x, 2, 1, 10);
        put(x, 4, 1, 0);
        put(x, 0, 2, 20);
        x.path(0, 0, 1, 2);
        put(x, 1, 1, 20);
        put(x, 2, 1, 20);
        x.clearPath();
        put(x, 3, 1, 0);
        return x;
    }

    private static void arguments() {
        SegmentTrees x = filled();
        check.refusesArgument("not declared", () -> x.path(5, 0, 1, 0));
        check.refusesArgument("not declared, operation 0", () -> x.path(5, 0, 0, 0));
        check.refusesArgument("type 8", () -> x.path(8, 0, 0, 0));
        check.refusesArgument("type -1", () -> x.path(-1, 0, 0, 0));
        check.refusesArgument("no word 2", () -> x.path(0, 2, 1, 0));
        check.refusesArgument("no word -1", () -> x.path(0, -1, 6, 0));
        check.refusesArgument("no word 1 of 1", () -> x.path(3, 1, 3, 0));
        check.refusesArgument("operation 7", () -> x.path(0, 0, 7, 0));
        check.refusesArgument("operation -1", () -> x.path(0, 0, -1, 0));
        check.isTrue("the word is not looked at for 0", x.path(0, 99, 0, 0));
        check.isTrue("nor a negative one", x.path(1, -5, 0, 0));
    }

    private static void refusedPathStatesNothing() {
        SegmentTrees x = filled();
        check.refusesArgument("operation 7", () -> x.path(3, 0, 7, 0));
        check.refusesArgument("word 1", () -> x.path(3, 1, 1, 0));
        check.same("nothing is stated", x.unique(false), 1);
        check.isTrue("another type of the level", x.path(0, 0, 0, 0));
        check.refusesArgument("word 2", () -> x.path(0, 2, 1, 0));
        for (int i = 0; i < 3; i++) {
            check.isTrue("condition " + i, x.path(0, 0, 6, 0));
        }
        check.isFalse("the fourth", x.path(0, 0, 6, 0));
    }

    private static void operations() {
        int[][] due = {{2}, {1, 3}, {1}, {1, 2}, {3}, {2, 3}};
        for (int operation = 1; operation <= 6; operation++) {
            SegmentTrees x = new SegmentTrees();
            x.type(0, NONE, 1, 0, false, true);
            for (int v = -1; v <= 1; v++) {
                put(x, 0, v, 0);
            }
            check.isTrue("stated", x.path(0, 0, operation, 0));
            check.order("operation " + operation, x, due[operation - 1]);
        }
    }

    private static void operationsAtTheEdges() {
        int[][] due = {{1}, {2}, {}, {1}, {2}, {1, 2}};
        for (int operation = 1; operation <= 6; operation++) {
            SegmentTrees x = new SegmentTrees();
            x.type(0, NONE, 1, 0, false, true);
            put(x, 0, Integer.MIN_VALUE, 0);
            put(x, 0, Integer.MAX_VALUE, 0);
            x.path(0, 0, operation, Integer.MIN_VALUE);
            check.order("least number, operation " + operation, x, due[operation - 1]);
        }
    }

    private static void statedByTypeAlone() {
        SegmentTrees x = filled();
        x.path(1, 0, 0, 0);
        check.order("type 1", x, 2, 6);
        x.clearPath();
        x.path(4, 0, 0, 0);
        check.order("type 4", x, 4);
        x.clearPath();
        x.path(3, 0, 0, 0);
        check.order("type 3", x, 8);
    }

    private static void lowestLevelDecides() {
        SegmentTrees x = filled();
        x.path(2, 0, 0, 0);
        x.path(0, 0, 0, 0);
        check.order("levels 1 and 3", x, 3, 7);
        x.clearPath();
        x.path(3, 0, 0, 0);
        x.path(1, 0, 0, 0);
        check.order("no type 1 below type 3", x);
        x.clearPath();
        x.path(4, 0, 0, 0);
        x.path(2, 0, 0, 0);
        check.order("no type 2 below type 4", x);
    }

    private static void levelsAboveDecide() {
        SegmentTrees x = filled();
        x.path(0, 1, 1, 20);
        x.path(2, 0, 0, 0);
        check.order("by level 1", x, 7);
        x.path(1, 1, 1, 10);
        check.order("by levels 1 and 2", x);
        x.clearPath();
        x.path(1, 1, 1, 10);
        x.path(2, 0, 0, 0);
        check.order("by level 2", x, 3);
    }

    private static void levelWithAnotherType() {
        SegmentTrees x = filled();
        check.isTrue("type 1", x.path(1, 1, 1, 20));
        check.isFalse("type 4, the same level", x.path(4, 0, 0, 0));
        check.isFalse("type 4 with a condition", x.path(4, 0, 1, 1));
        check.isTrue("type 1 again", x.path(1, 0, 0, 0));
        check.order("type 1 is stated still", x, 6);
        check.isTrue("two conditions are free", x.path(1, 0, 1, 1));
        check.isTrue("one condition is free", x.path(1, 0, 1, 1));
        check.isFalse("none is free", x.path(1, 0, 1, 1));
    }

    private static void atMostThreeConditions() {
        SegmentTrees x = filled();
        check.isTrue("first", x.path(0, 0, 5, 0));
        check.isTrue("second", x.path(0, 0, 3, 9));
        check.isTrue("third", x.path(0, 1, 2, 10));
        check.isFalse("fourth", x.path(0, 0, 1, 77));
        check.isTrue("the type alone", x.path(0, 0, 0, 0));
        check.order("the fourth is not looked at", x, 5);
        for (int i = 0; i < 3; i++) {
            check.isTrue("each level has three of its own", x.path(1, 0, 6, 0));
        }
        check.isFalse("and no fourth", x.path(1, 0, 6, 0));
    }

    private static void allConditionsHold() {
        SegmentTrees x = new SegmentTrees();
        x.type(0, NONE, 1, 0, false, true);
        for (int v = 1; v <= 5; v++) {
            put(x, 0, v, 0);
        }
        x.path(0, 0, 6, 2);
        x.path(0, 0, 4, 4);
        x.path(0, 0, 2, 3);
        check.order("at least 2, at most 4, not 3", x, 2, 4);
    }

    private static void clearing() {
        SegmentTrees x = filled();
        for (int i = 0; i < 3; i++) {
            x.path(1, 0, 1, 99);
        }
        x.path(0, 0, 1, 99);
        x.path(2, 0, 1, 99);
        check.order("none", x);
        x.clearPath();
        check.order("nothing is stated", x, 1, 2, 3, 4, 5, 6, 7, 8);
        check.isTrue("another type", x.path(4, 0, 1, 1));
        check.isTrue("two more", x.path(4, 0, 1, 1));
        check.isTrue("three", x.path(4, 0, 1, 1));
        check.order("type 4", x, 4);
        x.clearPath();
        x.clearPath();
        check.isTrue("no conditions are left", x.path(1, 0, 0, 0));
        check.order("type 1", x, 2, 6);
    }

    private static void pathStays() {
        SegmentTrees x = filled();
        x.path(0, 1, 1, 20);
        x.unique(true);
        x.delete();
        check.same("none meets it now", x.unique(false), 0);
        put(x, 0, 7, 20);
        check.order("the path is the same", x, 9);
    }
}
