import java.util.LinkedHashMap;
import java.util.Map;
import java.util.function.Consumer;

/**
 * Objects in the states that the document tells apart, each made by calls on a new one. Type 6 and 7
 * are declared in none of them; type 3 is at level 4, and the second order is that of the roots 0 by
 * word 2 of type 1.
 */
final class States {
    private static final int NONE = SegmentTrees.NONE;

    private States() {
    }

    /** Those in which a segment was inserted, by their names. */
    static Map<String, Consumer<SegmentTrees>> withSegments() {
        Map<String, Consumer<SegmentTrees>> states = new LinkedHashMap<>();
        states.put("at one", States::atOne);
        states.put("one held", States::oneHeld);
        states.put("in front of one", States::inFrontOfOne);
        states.put("behind all", States::behindAll);
        states.put("in front of all", States::inFrontOfAll);
        states.put("all deleted", States::allDeleted);
        states.put("full", States::full);
        return states;
    }

    static Map<String, Consumer<SegmentTrees>> all() {
        Map<String, Consumer<SegmentTrees>> states = new LinkedHashMap<>();
        states.put("new", x -> { });
        states.put("declared", States::declared);
        states.putAll(withSegments());
        return states;
    }

    static void declared(SegmentTrees x) {
        x.type(0, NONE, 2, 0, true, true);
        x.type(1, 0, 3, 1, false, true);
        x.type(2, 1, 1, NONE, false, true);
        x.type(3, 2, 4, 3, false, false);
        x.type(4, NONE, 3, 1, false, false);
        x.type(5, 4, 4, NONE, true, false);
        x.twins(1, 4);
        x.second(1, 2);
    }

    static int put(SegmentTrees x, int t, int... words) {
        for (int i = 0; i < words.length; i++) {
            x.work(i, words[i]);
        }
        return x.insert(t);
    }

    /** In the order: 1 (0): 3 (1): 4 (2): 5 (3); 6 (1); 2 (0): 7 (1); 8 (4), the twin of 7: 9 (5). */
    static void filled(SegmentTrees x) {
        declared(x);
        put(x, 0, 10, 11);
        put(x, 0, 20, 21);
        put(x, 1, 30, 31, 32);
        put(x, 2, 40);
        put(x, 3, 50, 51, 52, 53);
        put(x, 1, 60, 61, 62);
        x.path(0, 0, 1, 20);
        put(x, 1, 70, 71, 12);
        x.clearPath();
        put(x, 4, 80, 71, 12);
        put(x, 5, 90, 91, 92, 93);
    }

    /** At 3, below 1 which is fixed; levels 1 and 2 are stated, level 2 with three conditions. */
    static void atOne(SegmentTrees x) {
        filled(x);
        x.unique(false);
        x.fix();
        x.path(0, 0, 0, 0);
        x.path(1, 0, 6, 30);
        x.path(1, 1, 4, 90);
        x.path(1, 2, 2, 99);
        x.unique(false);
        setWork(x);
    }

    /** As atOne, with 3 held. */
    static void oneHeld(SegmentTrees x) {
        atOne(x);
        x.unique(true);
    }

    /** In front of 2, as 6 was deleted; 8 is fixed. */
    static void inFrontOfOne(SegmentTrees x) {
        filled(x);
        x.path(4, 0, 0, 0);
        x.unique(false);
        x.fix();
        x.clearPath();
        x.path(1, 0, 1, 60);
        x.unique(true);
        x.delete();
        x.clearPath();
        setWork(x);
    }

    /** Behind all, as 8 was deleted with 9 below it; 1 is fixed. */
    static void behindAll(SegmentTrees x) {
        filled(x);
        x.unique(false);
        x.fix();
        x.path(4, 0, 0, 0);
        x.unique(true);
        x.delete();
        setWork(x);
    }

    /** In front of all, by the second order; 1 is fixed. */
    static void inFrontOfAll(SegmentTrees x) {
        filled(x);
        x.unique(false);
        x.fix();
        x.bySecond(true);
        x.path(2, 0, 5, Integer.MIN_VALUE);
        setWork(x);
    }

    /** None is there, and none is fixed. */
    static void allDeleted(SegmentTrees x) {
        filled(x);
        for (int i = 0; i < 3; i++) {
            x.unique(true);
            x.delete();
        }
        setWork(x);
    }

    /** Sixty: the nine of filled, and roots of type 0 with the sequences 1001 .. 1051. */
    static void full(SegmentTrees x) {
        filled(x);
        for (int i = 1; i <= 51; i++) {
            x.work(0, 1000 + i);
            x.insert(0);
        }
        x.unique(false);
        x.fix();
        setWork(x);
    }

    private static void setWork(SegmentTrees x) {
        for (int i = 0; i < 4; i++) {
            x.work(i, 500 + i);
        }
    }
}
