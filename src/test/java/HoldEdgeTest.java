import java.util.LinkedHashMap;
import java.util.Map;
import java.util.function.Function;

/**
 * "If it was asked to HOLD and finds one, that is HELD, until any other call but work, word and at (one
 * that is refused or throws, too)."
 */
public final class HoldEdgeTest {
    private static final int NONE = SegmentTrees.NONE;
    private static final int LEAST = Integer.MIN_VALUE;
    private static final int GREATEST = Integer.MAX_VALUE;
    private static final String ARGUMENT = "throws.IllegalArgumentException";
    private static final String STATE = "throws.IllegalStateException";
    private static final String INDEX = "throws.IndexOutOfBoundsException";
    private static final Check check = new Check();

    public static void main(String[] args) {
        eachGetHoldsWhatItFinds();
        eachGetWithoutHoldHoldsNone();
        eachGetThatFindsNoneHoldsNone();
        workWordAndAtKeepTheHold();
        thoseThatThrowKeepItToo();
        allThreeTogetherKeepIt();
        callsThatAreDoneEndIt();
        callsThatAreRefusedEndIt();
        callsThatThrowEndIt();
        newHoldTakesThePlaceOfTheOld();
        anObjectHoldsForItselfAlone();
        check.end();
    }

    /** 1: 2: 3, of the types 0, 1 and 2, and 4 of type 0; 1 is fixed, and the position is at it. */
    private static SegmentTrees filled() {
        SegmentTrees x = new SegmentTrees();
        x.type(0, NONE, 2, 0, true, true);
        x.type(1, 0, 2, 0, false, true);
        x.type(2, 1, 2, 0, false, true);
        x.type(3, NONE, 2, 0, false, true);
        x.second(1, 0);
        x.insert(0);
        x.insert(1);
        x.insert(2);
        x.work(0, 1);
        x.insert(0);
        x.work(0, 0);
        x.unique(false);
        x.fix();
        return x;
    }

    private static Map<String, Function<SegmentTrees, Object>> gets(boolean hold) {
        Map<String, Function<SegmentTrees, Object>> gets = new LinkedHashMap<>();
        gets.put("unique", x -> x.unique(hold));
        gets.put("next", x -> x.next(hold));
        gets.put("within", x -> x.within(hold));
        return gets;
    }

    private static void isHeld(String what, SegmentTrees x) {
        check.isTrue(what + ": held", Answer.of(x, SegmentTrees::replace).equals("true"));
    }

    private static void isNotHeld(String what, SegmentTrees x, boolean byDelete) {
        Function<SegmentTrees, Object> ask = byDelete ? SegmentTrees::delete : SegmentTrees::replace;
        check.isTrue(what + ": not held", Answer.of(x, ask).equals(STATE));
    }

    private static void eachGetHoldsWhatItFinds() {
        gets(true).forEach((name, get) -> {
            SegmentTrees x = filled();
            int number = (Integer) get.apply(x);
            check.same(name, number, name.equals("unique") ? 1 : 2);
            x.work(1, 88);
            isHeld(name, x);
            check.same(name + ": what it found was replaced", x.segment(number, 11), 88);
            SegmentTrees y = filled();
            get.apply(y);
            check.same(name + ": what it found is deleted", y.delete(), name.equals("unique") ? 3 : 2);
            check.same(name + ": it is gone", y.segment(number, 0), NONE);
        });
    }

    private static void eachGetWithoutHoldHoldsNone() {
        for (boolean byDelete : new boolean[] {false, true}) {
            gets(false).forEach((name, get) -> {
                SegmentTrees x = filled();
                check.isTrue(name + " finds one", (Integer) get.apply(x) > 0);
                isNotHeld(name, x, byDelete);
            });
        }
    }

    private static void eachGetThatFindsNoneHoldsNone() {
        for (boolean byDelete : new boolean[] {false, true}) {
            gets(true).forEach((name, get) -> {
                SegmentTrees x = filled();
                x.path(3, 0, 0, 0);
                check.same(name + " finds none", (Integer) get.apply(x), 0);
                isNotHeld(name, x, byDelete);
            });
        }
    }

    private static void keeps(String what, String due, Function<SegmentTrees, Object> call) {
        gets(true).forEach((name, get) -> {
            SegmentTrees x = filled();
            get.apply(x);
            check.isTrue(what + " after " + name + " answers " + due, Answer.of(x, call).equals(due));
            isHeld(what + " after " + name, x);
        });
    }

    private static Object work(SegmentTrees x, int i, int v) {
        x.work(i, v);
        return "done";
    }

    private static void workWordAndAtKeepTheHold() {
        keeps("work 1", "done", x -> work(x, 1, LEAST));
        keeps("work 3", "done", x -> work(x, 3, GREATEST));
        keeps("word 0", "0", x -> x.word(0));
        keeps("word 1", "0", x -> x.word(1));
        SegmentTrees x = filled();
        x.unique(true);
        check.same("at", x.at(), 1);
        isHeld("at", x);
    }

    private static void thoseThatThrowKeepItToo() {
        for (int i : new int[] {-1, 4, LEAST, GREATEST}) {
            keeps("work " + i, ARGUMENT, x -> work(x, i, 1));
        }
        for (int i : new int[] {-1, 2, LEAST, GREATEST}) {
            keeps("word " + i, INDEX, x -> x.word(i));
        }
    }

    private static void allThreeTogetherKeepIt() {
        SegmentTrees x = filled();
        x.next(true);
        for (int i = 0; i < 50; i++) {
            x.work(1, i);
            x.word(1);
            x.at();
        }
        isHeld("many calls of the three", x);
        check.same("with the last word", x.word(1), 49);
    }

    private static void ends(String what, String due, Function<SegmentTrees, Object> call) {
        for (boolean byDelete : new boolean[] {false, true}) {
            SegmentTrees x = filled();
            x.next(true);
            check.isTrue(what + " answers " + due, Answer.of(x, call).equals(due));
            isNotHeld(what, x, byDelete);
        }
    }

    private static Function<SegmentTrees, Object> done(java.util.function.Consumer<SegmentTrees> call) {
        return x -> {
            call.accept(x);
            return "done";
        };
    }

    private static void callsThatAreDoneEndIt() {
        ends("clearPath", "done", done(SegmentTrees::clearPath));
        ends("path", "true", x -> x.path(0, 0, 0, 0));
        ends("path with a condition", "true", x -> x.path(0, 0, 1, 0));
        ends("unique", "1", x -> x.unique(false));
        ends("next", "3", x -> x.next(false));
        ends("within", "3", x -> x.within(false));
        ends("fix", "2", SegmentTrees::fix);
        ends("place", "1", SegmentTrees::place);
        ends("insert of a root", "5", x -> x.insert(3));
        ends("insert of a child", "5", x -> x.insert(1));
        ends("replace", "true", SegmentTrees::replace);
        ends("delete", "2", SegmentTrees::delete);
        ends("bySecond on", "done", done(x -> x.bySecond(true)));
        ends("bySecond off", "done", done(x -> x.bySecond(false)));
        ends("count", "4", SegmentTrees::count);
        ends("segment", "1", x -> x.segment(2, 0));
        ends("segment's word", "0", x -> x.segment(2, 10));
    }

    private static void callsThatAreRefusedEndIt() {
        endsInStatedPath("path of another type", "false", x -> x.path(3, 0, 0, 0));
        endsInStatedPath("path with a fourth condition", "false", x -> x.path(0, 0, 6, 0));
        endsInStatedPath("insert without a parent", "-2", x -> x.insert(2));
        endsInStatedPath("next that finds none", "0", x -> x.next(false));
        endsInStatedPath("next that finds none to hold", "0", x -> x.next(true));
        endsInStatedPath("within that finds none", "0", x -> x.within(false));
        endsInStatedPath("within that finds none to hold", "0", x -> x.within(true));
        ends("insert that is not unique", "-3", x -> x.insert(0));
        ends("segment of none", "-1", x -> x.segment(5, 0));
        ends("segment, what is 4", "-1", x -> x.segment(2, 4));
        fullEndsIt(false);
        fullEndsIt(true);
        replaceRefusedEndsIt(false);
        replaceRefusedEndsIt(true);
    }

    /** With 4 held, which alone meets the path: level 1 stated with three conditions. */
    private static void endsInStatedPath(String what, String due, Function<SegmentTrees, Object> call) {
        for (boolean byDelete : new boolean[] {false, true}) {
            SegmentTrees x = filled();
            for (int i = 0; i < 3; i++) {
                x.path(0, 0, 1, 1);
            }
            check.same("4 is held", x.unique(true), 4);
            check.isTrue(what + " answers " + due, Answer.of(x, call).equals(due));
            isNotHeld(what, x, byDelete);
        }
    }

    private static void fullEndsIt(boolean byDelete) {
        SegmentTrees x = filled();
        for (int i = 0; i < 56; i++) {
            x.insert(3);
        }
        x.unique(true);
        check.same("full", x.insert(3), -4);
        isNotHeld("insert when full", x, byDelete);
    }

    private static void replaceRefusedEndsIt(boolean byDelete) {
        SegmentTrees x = filled();
        x.unique(true);
        x.work(0, 9);
        check.isFalse("another sequence", x.replace());
        x.work(0, 0);
        isNotHeld("replace that is refused", x, byDelete);
    }

    private static void callsThatThrowEndIt() {
        ends("type, argument", ARGUMENT, done(x -> x.type(8, NONE, 1, 0, true, true)));
        ends("type, state", STATE, done(x -> x.type(4, NONE, 1, 0, true, true)));
        ends("twins, argument", ARGUMENT, done(x -> x.twins(1, 1)));
        ends("twins, state", STATE, done(x -> x.twins(1, 2)));
        ends("second, argument", ARGUMENT, done(x -> x.second(0, 0)));
        ends("second, state", STATE, done(x -> x.second(1, 0)));
        ends("path of no type", ARGUMENT, x -> x.path(4, 0, 0, 0));
        ends("path of no word", ARGUMENT, x -> x.path(0, 2, 1, 0));
        ends("path of no operation", ARGUMENT, x -> x.path(0, 0, 7, 0));
        ends("insert", ARGUMENT, x -> x.insert(4));
        for (boolean byDelete : new boolean[] {false, true}) {
            SegmentTrees x = new SegmentTrees();
            x.type(0, NONE, 1, 0, true, true);
            x.insert(0);
            x.unique(true);
            check.refusesState("within", () -> x.within(true));
            isNotHeld("within that throws", x, byDelete);
            x.unique(true);
            check.refusesState("bySecond", () -> x.bySecond(true));
            isNotHeld("bySecond that throws", x, byDelete);
        }
    }

    private static void newHoldTakesThePlaceOfTheOld() {
        SegmentTrees x = filled();
        x.unique(true);
        x.next(true);
        check.same("within finds 3", x.within(true), 3);
        check.same("3 alone is deleted", x.delete(), 1);
        check.same("1 is there", x.segment(1, 0), 0);
        check.same("2 is there", x.segment(2, 0), 1);
    }

    private static void anObjectHoldsForItselfAlone() {
        SegmentTrees x = filled();
        SegmentTrees y = filled();
        x.unique(true);
        y.count();
        isNotHeld("the other object", y, true);
        isHeld("this object", x);
    }
}
