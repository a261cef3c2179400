/** What the project's tests share: each wrong answer is printed, and one makes the test fail. */
final class Check {
    private int wrong;
    private int asked;

    void same(String what, long got, long due) {
        asked++;
        if (got != due) {
            wrong++;
            System.out.println(what + ": answered " + got + ", due is " + due);
        }
    }

    void isTrue(String what, boolean got) {
        same(what, got ? 1 : 0, 1);
    }

    void isFalse(String what, boolean got) {
        same(what, got ? 1 : 0, 0);
    }

    /** The numbers that next answers from the front on, until there is none. */
    void order(String what, SegmentTrees trees, int... due) {
        int first = trees.unique(false);
        for (int i = 0; i < due.length; i++) {
            same(what + ", number " + i, i == 0 ? first : trees.next(false), due[i]);
        }
        same(what + ", behind the last", due.length == 0 ? first : trees.next(false), 0);
    }

    void refusesArgument(String what, Runnable call) {
        refuses(what, IllegalArgumentException.class, call);
    }

    void refusesState(String what, Runnable call) {
        refuses(what, IllegalStateException.class, call);
    }

    void refusesIndex(String what, Runnable call) {
        refuses(what, IndexOutOfBoundsException.class, call);
    }

    private void refuses(String what, Class<? extends RuntimeException> due, Runnable call) {
        asked++;
        String got = "nothing";
        try {
            call.run();
        } catch (RuntimeException e) {
            got = e.getClass().getName();
        }
        if (!got.equals(due.getName())) {
            wrong++;
            System.out.println(what + ": threw " + got + ", due is " + due.getName());
        }
    }

    void end() {
        System.out.println(asked + " answers asked for, " + wrong + " wrong");
        if (wrong != 0) {
            System.exit(1);
        }
    }
}
