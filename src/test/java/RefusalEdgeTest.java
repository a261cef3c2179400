import java.util.Map;
import java.util.function.Consumer;
import java.util.function.Function;

/**
 * "What throws leaves all else as it was; the exceptions are tested in the order in which they are
 * named." And what is refused: "nothing is done" (path), "all stays" (a get, insert, replace).
 */
public final class RefusalEdgeTest {
    private static final int NONE = SegmentTrees.NONE;
    private static final int LEAST = Integer.MIN_VALUE;
    private static final int GREATEST = Integer.MAX_VALUE;
    private static final String ARGUMENT = "throws.IllegalArgumentException";
    private static final String STATE = "throws.IllegalStateException";
    private static final String INDEX = "throws.IndexOutOfBoundsException";
    private static final Check check = new Check();
    private static final Probe probe = new Probe(check);

    public static void main(String[] args) {
        wrongArgumentsInEachState();
        wrongWorkInEachState();
        typeInAWrongState();
        twinsInAWrongState();
        secondInAWrongState();
        withinWithoutAFixedParent();
        fixAndWordAtNone();
        wordThatIsNotThere();
        replaceAndDeleteWithoutAHold();
        bySecondWithoutASecondOrder();
        pathRefused();
        getThatFindsNone();
        insertRefused();
        replaceRefused();
        argumentsOfTypeBeforeItsStates();
        argumentsOfTwinsBeforeTheirStates();
        argumentsOfSecondBeforeItsState();
        argumentsOfPathBeforeItsRefusals();
        argumentsOfInsertBeforeItsRefusals();
        stateOfWordBeforeItsIndex();
        check.end();
    }

    private static void answers(String what, String due, Consumer<SegmentTrees> before,
            Function<SegmentTrees, Object> call) {
        SegmentTrees x = new SegmentTrees();
        before.accept(x);
        check.isTrue(what + " answers " + due, Answer.of(x, call).equals(due));
    }

    private static void stays(String what, String due, Consumer<SegmentTrees> before,
            Function<SegmentTrees, Object> call) {
        answers(what, due, before, call);
        probe.leavesAll(what, before, call);
    }

    private static void staysWithItsHold(String what, String due, Consumer<SegmentTrees> before,
            Function<SegmentTrees, Object> call) {
        answers(what, due, before, call);
        probe.leavesHoldToo(what, before, call);
    }

    private static Object type(SegmentTrees x, int t, int parent, int length, int sequence) {
        x.type(t, parent, length, sequence, true, true);
        return "done";
    }

    private static Object twins(SegmentTrees x, int t, int u) {
        x.twins(t, u);
        return "done";
    }

    private static Object second(SegmentTrees x, int t, int word) {
        x.second(t, word);
        return "done";
    }

    private static Object work(SegmentTrees x, int i, int v) {
        x.work(i, v);
        return "done";
    }

    private static Object bySecond(SegmentTrees x, boolean on) {
        x.bySecond(on);
        return "done";
    }

    private static void wrongArgumentsInEachState() {
        States.all().forEach((name, state) -> {
            stays(name + ": type 8", ARGUMENT, state, x -> type(x, 8, NONE, 1, 0));
            stays(name + ": type -1", ARGUMENT, state, x -> type(x, -1, NONE, 1, 0));
            stays(name + ": type below 7", ARGUMENT, state, x -> type(x, 6, 7, 1, 0));
            stays(name + ": type at level 5", ARGUMENT, state, x -> type(x, 6, 3, 1, 0));
            stays(name + ": type of length 0", ARGUMENT, state, x -> type(x, 6, NONE, 0, NONE));
            stays(name + ": type of length 5", ARGUMENT, state, x -> type(x, 6, NONE, 5, NONE));
            stays(name + ": type with sequence 2 of 2", ARGUMENT, state, x -> type(x, 6, NONE, 2, 2));
            stays(name + ": type with sequence -2", ARGUMENT, state, x -> type(x, 6, NONE, 2, -2));
            stays(name + ": twins 0 and 6", ARGUMENT, state, x -> twins(x, 0, 6));
            stays(name + ": twins 6 and 0", ARGUMENT, state, x -> twins(x, 6, 0));
            stays(name + ": twins 3 and 3", ARGUMENT, state, x -> twins(x, 3, 3));
            stays(name + ": twins 0 and 1", ARGUMENT, state, x -> twins(x, 0, 1));
            stays(name + ": twins 3 and 5", ARGUMENT, state, x -> twins(x, 3, 5));
            stays(name + ": second 6", ARGUMENT, state, x -> second(x, 6, 0));
            stays(name + ": second 0", ARGUMENT, state, x -> second(x, 0, 0));
            stays(name + ": second 1 by word 3", ARGUMENT, state, x -> second(x, 1, 3));
            stays(name + ": second 1 by word -1", ARGUMENT, state, x -> second(x, 1, -1));
            stays(name + ": path 6", ARGUMENT, state, x -> x.path(6, 0, 0, 0));
            stays(name + ": path of word 4", ARGUMENT, state, x -> x.path(3, 4, 1, 0));
            stays(name + ": path of word -1", ARGUMENT, state, x -> x.path(3, -1, 1, 0));
            stays(name + ": path by 7", ARGUMENT, state, x -> x.path(3, 0, 7, 0));
            stays(name + ": path by -1", ARGUMENT, state, x -> x.path(3, 0, -1, 0));
            stays(name + ": insert 6", ARGUMENT, state, x -> x.insert(6));
            stays(name + ": insert -1", ARGUMENT, state, x -> x.insert(-1));
        });
    }

    private static void wrongWorkInEachState() {
        States.all().forEach((name, state) -> {
            for (int i : new int[] {-1, 4, LEAST, GREATEST}) {
                staysWithItsHold(name + ": work " + i, ARGUMENT, state, x -> work(x, i, 77));
            }
        });
    }

    private static void typeInAWrongState() {
        stays("type that is declared", STATE, States::declared, x -> type(x, 3, NONE, 1, 0));
        States.withSegments().forEach((name, state) -> {
            stays(name + ": type", STATE, state, x -> type(x, 6, NONE, 1, 0));
            stays(name + ": type that is declared", STATE, state, x -> type(x, 0, NONE, 2, 0));
        });
    }

    private static void declaredWithLikeTypes(SegmentTrees x) {
        States.declared(x);
        x.type(6, NONE, 3, 1, false, true);
        x.type(7, NONE, 3, 1, false, true);
    }

    private static void twinsInAWrongState() {
        stays("the first has a twin", STATE, RefusalEdgeTest::declaredWithLikeTypes, x -> twins(x, 1, 6));
        stays("the other has a twin", STATE, RefusalEdgeTest::declaredWithLikeTypes, x -> twins(x, 6, 1));
        stays("each is the other's twin", STATE, RefusalEdgeTest::declaredWithLikeTypes, x -> twins(x, 4, 1));
        stays("inserted", STATE, x -> {
            declaredWithLikeTypes(x);
            x.insert(0);
        }, x -> twins(x, 6, 7));
    }

    private static void secondInAWrongState() {
        States.withSegments().forEach((name, state) ->
                stays(name + ": second", STATE, state, x -> second(x, 3, 3)));
    }

    private static void withinWithoutAFixedParent() {
        for (boolean hold : new boolean[] {false, true}) {
            stays("new: within", STATE, x -> { }, x -> x.within(hold));
            stays("none was fixed: within", STATE, States::filled, x -> x.within(hold));
            stays("all deleted: within", STATE, States::allDeleted, x -> x.within(hold));
        }
    }

    private static void fixAndWordAtNone() {
        Map<String, Consumer<SegmentTrees>> states = States.all();
        for (String name : new String[] {"new", "declared", "in front of one", "behind all", "in front of all",
            "all deleted"}) {
            stays(name + ": fix", STATE, states.get(name), SegmentTrees::fix);
            staysWithItsHold(name + ": word", STATE, states.get(name), x -> x.word(0));
        }
    }

    private static void wordThatIsNotThere() {
        for (int i : new int[] {-1, 3, LEAST, GREATEST}) {
            staysWithItsHold("word " + i, INDEX, States::atOne, x -> x.word(i));
            staysWithItsHold("held: word " + i, INDEX, States::oneHeld, x -> x.word(i));
        }
    }

    private static void replaceAndDeleteWithoutAHold() {
        States.all().forEach((name, state) -> {
            if (!name.equals("one held")) {
                stays(name + ": replace", STATE, state, SegmentTrees::replace);
                stays(name + ": delete", STATE, state, SegmentTrees::delete);
            }
        });
    }

    private static void bySecondWithoutASecondOrder() {
        for (boolean on : new boolean[] {false, true}) {
            stays("new: bySecond", STATE, x -> { }, x -> bySecond(x, on));
            stays("at one: bySecond", STATE, x -> {
                x.type(0, NONE, 1, 0, false, true);
                x.insert(0);
                x.insert(0);
                x.unique(true);
            }, x -> bySecond(x, on));
        }
    }

    private static void pathRefused() {
        stays("a type beside the one stated", "false", States::atOne, x -> x.path(4, 0, 0, 0));
        stays("a condition on such a type", "false", States::oneHeld, x -> x.path(4, 0, 1, 0));
        stays("a fourth condition", "false", States::atOne, x -> x.path(1, 0, 1, 30));
        stays("a fourth condition, one held", "false", States::oneHeld, x -> x.path(1, 0, 1, 31));
    }

    private static void getThatFindsNone() {
        for (boolean hold : new boolean[] {false, true}) {
            States.withSegments().forEach((name, state) -> {
                Consumer<SegmentTrees> before = x -> {
                    state.accept(x);
                    x.clearPath();
                    x.path(3, 3, 1, 77);
                };
                stays(name + ": unique", "0", before, x -> x.unique(hold));
                stays(name + ": next", "0", before, x -> x.next(hold));
                if (!name.equals("all deleted")) {
                    stays(name + ": within", "0", before, x -> x.within(hold));
                }
            });
            stays("new: unique", "0", x -> { }, x -> x.unique(hold));
            stays("new: next", "0", x -> { }, x -> x.next(hold));
            stays("behind all: next of any", "0", x -> {
                States.behindAll(x);
                x.clearPath();
            }, x -> x.next(hold));
            stays("held, the last one: next", "0", x -> {
                States.oneHeld(x);
                x.path(1, 0, 0, 0);
                x.next(true);
                x.next(true);
            }, x -> x.next(hold));
        }
    }

    private static void insertRefused() {
        stays("no segments: no parent", "-2", States::declared, x -> x.insert(1));
        stays("no parent by the path", "-2", x -> {
            States.oneHeld(x);
            x.path(0, 0, 1, 11);
            x.work(1, 31);
        }, x -> x.insert(1));
        stays("not unique", "-3", x -> {
            States.oneHeld(x);
            x.work(0, 20);
        }, x -> x.insert(0));
        stays("sixty, a root", "-4", States::full, x -> x.insert(0));
        stays("sixty, a child", "-4", States::full, x -> x.insert(3));
        stays("sixty, one that would have a twin", "-4", x -> {
            States.full(x);
            x.work(1, 31);
        }, x -> x.insert(4));
    }

    private static void replaceRefused() {
        stays("another sequence", "false", x -> {
            States.oneHeld(x);
            x.work(1, 32);
        }, SegmentTrees::replace);
        stays("another sequence of one that has a twin", "false", x -> {
            States.filled(x);
            x.path(1, 0, 1, 80);
            x.unique(true);
            x.work(1, 72);
        }, SegmentTrees::replace);
    }

    private static void argumentsOfTypeBeforeItsStates() {
        answers("declared, its parent is not", ARGUMENT, States::declared, x -> type(x, 3, 7, 1, 0));
        answers("declared, at level 5", ARGUMENT, States::declared, x -> type(x, 3, 3, 1, 0));
        answers("declared, length 0", ARGUMENT, States::declared, x -> type(x, 3, NONE, 0, NONE));
        answers("declared, length 5", ARGUMENT, States::declared, x -> type(x, 3, NONE, 5, NONE));
        answers("declared, sequence -2", ARGUMENT, States::declared, x -> type(x, 3, NONE, 1, -2));
        answers("declared, sequence 1 of 1", ARGUMENT, States::declared, x -> type(x, 3, NONE, 1, 1));
        answers("inserted, type 8", ARGUMENT, States::filled, x -> type(x, 8, NONE, 1, 0));
        answers("inserted, its parent is not declared", ARGUMENT, States::filled, x -> type(x, 6, 7, 1, 0));
        answers("inserted, at level 5", ARGUMENT, States::filled, x -> type(x, 6, 3, 1, 0));
        answers("inserted, length 5", ARGUMENT, States::filled, x -> type(x, 6, NONE, 5, 0));
        answers("inserted, sequence 1 of 1", ARGUMENT, States::filled, x -> type(x, 6, NONE, 1, 1));
        answers("declared, with right arguments", STATE, States::declared, x -> type(x, 3, 2, 4, 3));
    }

    private static void argumentsOfTwinsBeforeTheirStates() {
        answers("one has a twin, the other is not declared", ARGUMENT, States::declared, x -> twins(x, 1, 7));
        answers("not declared, the other has a twin", ARGUMENT, States::declared, x -> twins(x, 7, 1));
        answers("the same, and it has a twin", ARGUMENT, States::declared, x -> twins(x, 1, 1));
        answers("one has a twin, other lengths", ARGUMENT, States::declared, x -> twins(x, 1, 3));
        answers("one has a twin, none for the other", ARGUMENT, States::declared, x -> twins(x, 2, 1));
        answers("inserted, not declared", ARGUMENT, States::filled, x -> twins(x, 6, 0));
        answers("inserted, the same", ARGUMENT, States::filled, x -> twins(x, 0, 0));
        answers("inserted, other lengths", ARGUMENT, States::filled, x -> twins(x, 0, 3));
        answers("inserted, other sequences", ARGUMENT, States::filled, x -> twins(x, 3, 5));
    }

    private static void argumentsOfSecondBeforeItsState() {
        answers("inserted, not declared", ARGUMENT, States::filled, x -> second(x, 7, 0));
        answers("inserted, a root type", ARGUMENT, States::filled, x -> second(x, 4, 0));
        answers("inserted, no such word", ARGUMENT, States::filled, x -> second(x, 2, 1));
        answers("inserted, no word -1", ARGUMENT, States::filled, x -> second(x, 2, -1));
    }

    private static void argumentsOfPathBeforeItsRefusals() {
        answers("another type, no such word", ARGUMENT, States::atOne, x -> x.path(4, 3, 1, 0));
        answers("another type, no word -1", ARGUMENT, States::atOne, x -> x.path(4, -1, 1, 0));
        answers("another type, no such operation", ARGUMENT, States::atOne, x -> x.path(4, 0, 7, 0));
        answers("a fourth condition, no such word", ARGUMENT, States::atOne, x -> x.path(1, 3, 1, 0));
        answers("a fourth condition, no such operation", ARGUMENT, States::atOne, x -> x.path(1, 0, -1, 0));
    }

    private static void argumentsOfInsertBeforeItsRefusals() {
        answers("sixty, not declared", ARGUMENT, States::full, x -> x.insert(6));
        answers("sixty, type 8", ARGUMENT, States::full, x -> x.insert(8));
        answers("no parent, not declared", ARGUMENT, States::declared, x -> x.insert(7));
    }

    private static void stateOfWordBeforeItsIndex() {
        for (int i : new int[] {-1, 4, LEAST, GREATEST}) {
            answers("at none: word " + i, STATE, States::behindAll, x -> x.word(i));
            answers("new: word " + i, STATE, x -> { }, x -> x.word(i));
        }
    }
}
