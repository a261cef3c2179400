import java.util.ArrayList;
import java.util.List;
import java.util.function.BiConsumer;
import java.util.function.Consumer;
import java.util.function.Function;

/**
 * Tells whether a call left all as it was: of two objects that were made alike one gets the call, the
 * other gets count() in its place, and then both must answer the same to all that can be asked. As
 * asking moves the position and changes much else, each way of asking has two objects of its own.
 */
final class Probe {
    private static final int TYPES = 8;
    private static final int MOST_SEGMENTS = 60;
    private static final int[] WHATS = {0, 1, 2, 3, 10, 11, 12, 13};

    private final Check check;

    Probe(Check check) {
        this.check = check;
    }

    /** Of a call that ends a hold; so does count(), and that is all that count() does. */
    void leavesAll(String what, Consumer<SegmentTrees> before, Function<SegmentTrees, Object> call) {
        compare(what, before, call, SegmentTrees::count);
    }

    /** Of a call that does not end a hold either: what is held must be held still. */
    void leavesHoldToo(String what, Consumer<SegmentTrees> before, Function<SegmentTrees, Object> call) {
        compare(what, before, call, SegmentTrees::at);
    }

    private void compare(String what, Consumer<SegmentTrees> before, Function<SegmentTrees, Object> call,
            Function<SegmentTrees, Object> inItsPlace) {
        List<BiConsumer<SegmentTrees, List<String>>> ways = List.of(Probe::position, Probe::behind, Probe::below,
                Probe::meeting, Probe::all, Probe::segmentsInFront, Probe::segmentsBehind, Probe::workWords,
                Probe::pathRoom, Probe::secondOrder, Probe::declaredTypes, Probe::twinTypes, Probe::secondNames,
                Probe::replaced, Probe::deleted, Probe::fixedHere);
        for (int i = 0; i < ways.size(); i++) {
            List<String> due = toldAfter(before, inItsPlace, ways.get(i));
            List<String> got = toldAfter(before, call, ways.get(i));
            if (!got.equals(due)) {
                System.out.println(what + ", way " + i + " of asking: due " + due + ", got " + got);
            }
            check.isTrue(what + ", way " + i + " of asking", got.equals(due));
        }
    }

    private static List<String> toldAfter(Consumer<SegmentTrees> before, Function<SegmentTrees, Object> call,
            BiConsumer<SegmentTrees, List<String>> way) {
        SegmentTrees x = new SegmentTrees();
        before.accept(x);
        Answer.of(x, call);
        List<String> told = new ArrayList<>();
        way.accept(x, told);
        return told;
    }

    private static void position(SegmentTrees x, List<String> told) {
        told.add(Answer.of(x, SegmentTrees::at));
        for (int i = -1; i <= 4; i++) {
            int word = i;
            told.add(Answer.of(x, y -> y.word(word)));
        }
        told.add(Answer.of(x, SegmentTrees::place));
        told.add(Answer.of(x, SegmentTrees::count));
    }

    private static void behind(SegmentTrees x, List<String> told) {
        untilNone(x, told, y -> y.next(false));
    }

    private static void below(SegmentTrees x, List<String> told) {
        untilNone(x, told, y -> y.within(false));
    }

    private static void meeting(SegmentTrees x, List<String> told) {
        told.add(Answer.of(x, y -> y.unique(false)));
        untilNone(x, told, y -> y.next(false));
    }

    private static void all(SegmentTrees x, List<String> told) {
        x.clearPath();
        meeting(x, told);
    }

    private static void untilNone(SegmentTrees x, List<String> told, Function<SegmentTrees, Object> get) {
        for (int i = 0; i <= MOST_SEGMENTS; i++) {
            told.add(Answer.of(x, get));
        }
    }

    private static void segmentsInFront(SegmentTrees x, List<String> told) {
        segments(x, told, 0);
    }

    private static void segmentsBehind(SegmentTrees x, List<String> told) {
        segments(x, told, 33);
    }

    private static void segments(SegmentTrees x, List<String> told, int from) {
        for (int number = from; number <= from + 33; number++) {
            for (int what : WHATS) {
                told.add(String.valueOf(x.segment(number, what)));
            }
        }
    }

    private static void workWords(SegmentTrees x, List<String> told) {
        x.clearPath();
        for (int t = 0; t < TYPES; t++) {
            int type = t;
            told.add(Answer.of(x, y -> y.insert(type)));
            position(x, told);
        }
    }

    private static void pathRoom(SegmentTrees x, List<String> told) {
        for (int t = 0; t < TYPES; t++) {
            int type = t;
            told.add(Answer.of(x, y -> y.path(type, 0, 0, 0)));
            for (int i = 0; i < 4; i++) {
                told.add(Answer.of(x, y -> y.path(type, 0, 2, 0)));
            }
        }
    }

    private static void secondOrder(SegmentTrees x, List<String> told) {
        told.add(Answer.ofDone(x, y -> y.bySecond(true)));
        all(x, told);
        told.add(Answer.ofDone(x, y -> y.bySecond(false)));
        all(x, told);
    }

    private static void declaredTypes(SegmentTrees x, List<String> told) {
        for (int t = 0; t < TYPES; t++) {
            int type = t;
            told.add(Answer.ofDone(x, y -> y.type(type, SegmentTrees.NONE, 1, 0, false, false)));
        }
    }

    private static void twinTypes(SegmentTrees x, List<String> told) {
        for (int t = 0; t < TYPES; t++) {
            for (int u = 0; u < TYPES; u++) {
                int one = t;
                int other = u;
                told.add(Answer.ofDone(x, y -> y.twins(one, other)));
            }
        }
    }

    private static void secondNames(SegmentTrees x, List<String> told) {
        for (int t = 0; t < TYPES; t++) {
            for (int i = 0; i < 4; i++) {
                int type = t;
                int word = i;
                told.add(Answer.ofDone(x, y -> y.second(type, word)));
            }
        }
    }

    private static void replaced(SegmentTrees x, List<String> told) {
        told.add(Answer.of(x, SegmentTrees::replace));
        position(x, told);
    }

    private static void deleted(SegmentTrees x, List<String> told) {
        told.add(Answer.of(x, SegmentTrees::delete));
        position(x, told);
        all(x, told);
    }

    private static void fixedHere(SegmentTrees x, List<String> told) {
        told.add(Answer.of(x, SegmentTrees::fix));
        below(x, told);
    }
}
