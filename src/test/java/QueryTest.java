/** Promises 19 and 20: count and segment. */
public final class QueryTest {
    private static final int NONE = SegmentTrees.NONE;
    private static final Check check = new Check();

    public static void main(String[] args) {
        counting();
        asking();
        askingNone();
        check.end();
    }

    private static SegmentTrees filled() {
        SegmentTrees x = new SegmentTrees();
        x.type(6, NONE, 4, 0, false, true);
        x.type(2, 6, 2, 1, false, true);
        x.type(3, 6, 2, 1, false, true);
        x.twins(2, 3);
        for (int i = 0; i < 4; i++) {
            x.work(i, 10 + i);
        }
        x.insert(6);
        x.insert(2);
        x.insert(3);
        return x;
    }

    private static void counting() {
        SegmentTrees x = new SegmentTrees();
        check.same("none", x.count(), 0);
        x = filled();
        check.same("three", x.count(), 3);
        x.path(2, 0, 0, 0);
        x.unique(true);
        x.delete();
        check.same("two", x.count(), 2);
        x.clearPath();
        x.unique(true);
        x.delete();
        check.same("none is left", x.count(), 0);
    }

    private static void asking() {
        SegmentTrees x = filled();
        int[][] due = {{6, 0, 0, 1}, {2, 1, 3, 2}, {3, 1, 2, 2}};
        for (int number = 1; number <= 3; number++) {
            for (int what = 0; what < 4; what++) {
                check.same("segment(" + number + ", " + what + ")",
                        x.segment(number, what), due[number - 1][what]);
            }
        }
        for (int i = 0; i < 4; i++) {
            check.same("word " + i, x.segment(1, 10 + i), 10 + i);
        }
        check.same("the position stays", x.at(), 3);
        check.same("word 1 of the twin", x.segment(2, 11), 11);
    }

    private static void askingNone() {
        SegmentTrees x = filled();
        int[] numbers = {0, -1, 4, Integer.MIN_VALUE, Integer.MAX_VALUE};
        for (int number : numbers) {
            check.same("no segment " + number, x.segment(number, 0), NONE);
            check.same("no word of segment " + number, x.segment(number, 10), NONE);
        }
        int[] whats = {-1, 4, 5, 9, 14, 15, 100, Integer.MIN_VALUE, Integer.MIN_VALUE + 9,
            Integer.MIN_VALUE + 10, Integer.MAX_VALUE};
        for (int what : whats) {
            check.same("what = " + what, x.segment(1, what), NONE);
        }
        check.same("word 2 of 2", x.segment(2, 12), NONE);
        x.path(2, 0, 0, 0);
        x.unique(true);
        x.delete();
        check.same("deleted", x.segment(2, 0), NONE);
        check.same("its twin's twin", x.segment(3, 2), 0);
    }
}
