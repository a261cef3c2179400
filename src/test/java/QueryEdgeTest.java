/** The sentences of the promises 19 and 20 that name a boundary: count and segment. */
public final class QueryEdgeTest {
    private static final int NONE = SegmentTrees.NONE;
    private static final int LEAST = Integer.MIN_VALUE;
    private static final int GREATEST = Integer.MAX_VALUE;
    private static final Check check = new Check();

    public static void main(String[] args) {
        countFromNoneTo60();
        countAfterRefusals();
        countIsNotByThePath();
        segmentWithTheLeastAndTheGreatestNumber();
        segmentThatWasDeleted();
        segmentsType();
        segmentsParent();
        segmentsTwin();
        segmentsLevel();
        segmentsWords();
        segmentsWordThatIsLessOne();
        whatIsNoneOfThese();
        wordsBeyondTheLength();
        askingChangesNothing();
        check.end();
    }

    /** The types 0 .. 3 one below the other, of 1 .. 4 words; 4 .. 7 likewise, their twins. */
    private static SegmentTrees filled() {
        SegmentTrees x = new SegmentTrees();
        for (int t = 0; t < 8; t++) {
            x.type(t, t % 4 == 0 ? NONE : t - 1, t % 4 + 1, 0, false, true);
        }
        for (int t = 0; t < 4; t++) {
            x.twins(t, t + 4);
        }
        for (int t = 0; t < 8; t++) {
            States.put(x, t, LEAST, GREATEST, 0, -1);
        }
        return x;
    }

    /** 19: "How many segments there are." */
    private static void countFromNoneTo60() {
        SegmentTrees x = new SegmentTrees();
        check.same("new", x.count(), 0);
        x.type(0, NONE, 1, 0, false, true);
        for (int i = 1; i <= 60; i++) {
            x.insert(0);
            check.same("inserted", x.count(), i);
        }
        for (int i = 59; i >= 0; i--) {
            x.unique(true);
            x.delete();
            check.same("deleted", x.count(), i);
        }
    }

    private static void countAfterRefusals() {
        SegmentTrees x = new SegmentTrees();
        x.type(0, NONE, 1, 0, true, true);
        x.type(1, 0, 1, 0, true, true);
        x.insert(1);
        check.same("no parent", x.count(), 0);
        x.insert(0);
        x.insert(0);
        check.same("not unique", x.count(), 1);
        check.refusesArgument("not declared", () -> x.insert(2));
        check.same("one still", x.count(), 1);
        for (int i = 1; i < 62; i++) {
            States.put(x, 0, i);
        }
        check.same("full", x.count(), 60);
    }

    private static void countIsNotByThePath() {
        SegmentTrees x = filled();
        x.path(3, 0, 1, 5);
        check.same("all", x.count(), 8);
    }

    /** 20: "NONE when there is none such" */
    private static void segmentWithTheLeastAndTheGreatestNumber() {
        SegmentTrees x = filled();
        int[] whats = {0, 1, 2, 3, 10, 11, 12, 13};
        for (int number : new int[] {0, -1, -8, 9, 60, 61, LEAST, GREATEST}) {
            for (int what : whats) {
                check.same("segment(" + number + ", " + what + ")", x.segment(number, what), NONE);
            }
        }
        check.same("the least number", x.segment(1, 0), 0);
        check.same("the greatest number", x.segment(8, 0), 7);
        check.same("nothing is there", new SegmentTrees().segment(1, 0), NONE);
    }

    private static void segmentThatWasDeleted() {
        SegmentTrees x = filled();
        x.path(2, 0, 0, 0);
        x.unique(true);
        check.same("two are deleted", x.delete(), 2);
        for (int what : new int[] {0, 1, 2, 3, 10, 11, 12, 13}) {
            check.same("3, what is " + what, x.segment(3, what), NONE);
            check.same("4, what is " + what, x.segment(4, what), NONE);
        }
        check.same("its parent is there", x.segment(2, 0), 1);
        check.same("a twin is left alone", x.segment(7, 2), 0);
        check.same("and the other one", x.segment(8, 2), 0);
        check.same("another pair is not", x.segment(6, 2), 2);
    }

    /** 20: "what = 0: its type" */
    private static void segmentsType() {
        SegmentTrees x = filled();
        for (int t = 0; t < 8; t++) {
            check.same("type " + t, x.segment(t + 1, 0), t);
        }
    }

    /** 20: "1 the number of its parent (0 of a root)" */
    private static void segmentsParent() {
        SegmentTrees x = filled();
        int[] due = {0, 1, 2, 3, 0, 5, 6, 7};
        for (int i = 0; i < 8; i++) {
            check.same("parent of " + (i + 1), x.segment(i + 1, 1), due[i]);
        }
    }

    /** 20: "2 that of its twin (0 for none)" */
    private static void segmentsTwin() {
        SegmentTrees x = filled();
        for (int i = 0; i < 8; i++) {
            check.same("twin of " + (i + 1), x.segment(i + 1, 2), (i + 4) % 8 + 1);
        }
        States.put(x, 0, 77);
        check.same("none", x.segment(9, 2), 0);
    }

    /** 20: "3 its level" */
    private static void segmentsLevel() {
        SegmentTrees x = filled();
        for (int i = 0; i < 8; i++) {
            check.same("level of " + (i + 1), x.segment(i + 1, 3), i % 4 + 1);
        }
    }

    /** 20: "10 + i its word i" */
    private static void segmentsWords() {
        SegmentTrees x = filled();
        int[] due = {LEAST, GREATEST, 0, -1};
        for (int number = 1; number <= 8; number++) {
            for (int i = 0; i <= (number - 1) % 4; i++) {
                check.same("word " + i + " of " + number, x.segment(number, 10 + i), due[i]);
            }
        }
    }

    /** A word can be -1 itself, and then it is answered as any other. */
    private static void segmentsWordThatIsLessOne() {
        SegmentTrees x = filled();
        check.same("word 3 is -1", x.segment(4, 13), -1);
        x.path(3, 0, 0, 0);
        x.unique(true);
        x.work(3, 6);
        x.replace();
        check.same("and 6 then", x.segment(4, 13), 6);
    }

    /** 20: "or what is none of these" */
    private static void whatIsNoneOfThese() {
        SegmentTrees x = filled();
        for (int what : new int[] {-1, 4, 5, 8, 9, 14, 15, -10, LEAST, LEAST + 9, LEAST + 10, LEAST + 13,
            GREATEST, GREATEST - 3}) {
            for (int number = 1; number <= 8; number++) {
                check.same("what is " + what, x.segment(number, what), NONE);
            }
        }
    }

    /** 20: "(or no word of it)" */
    private static void wordsBeyondTheLength() {
        SegmentTrees x = filled();
        for (int number = 1; number <= 8; number++) {
            for (int i = (number - 1) % 4 + 1; i <= 4; i++) {
                check.same("word " + i + " of " + number, x.segment(number, 10 + i), NONE);
            }
        }
    }

    private static void askingChangesNothing() {
        Probe probe = new Probe(check);
        States.all().forEach((name, state) -> {
            probe.leavesAll(name + ": segment", state, x -> x.segment(1, 0));
            probe.leavesAll(name + ": segment of none", state, x -> x.segment(99, 0));
            probe.leavesAll(name + ": no such what", state, x -> x.segment(1, 4));
            probe.leavesAll(name + ": place", state, SegmentTrees::place);
            probe.leavesHoldToo(name + ": at, against no call", state, x -> "no call");
            probe.leavesHoldToo(name + ": word", state, x -> x.word(0));
            if (!name.equals("one held")) {
                probe.leavesHoldToo(name + ": count", state, SegmentTrees::count);
            }
        });
    }
}
