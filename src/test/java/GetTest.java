/** Promises 7 to 14: work, the gets, fix, at, place and word, and how long a segment is held. */
public final class GetTest {
    private static final int NONE = SegmentTrees.NONE;
    private static final Check check = new Check();

    public static void main(String[] args) {
        working();
        uniqueFromTheFront();
        nextFromThePosition();
        failedGetChangesNothing();
        withinTheFixedParent();
        withinFromThePosition();
        withinNeedsAParent();
        fixing();
        fixedUntilDeleted();
        atAndPlace();
        words();
        heldOverWorkWordAndAt();
        heldNoMore();
        gettingWithoutHold();
        check.end();
    }

    /** 1: 2: 3, 4; 5: 6; 7: 8, with types 0, 1 and 2 one below the other and type 3 a second root. */
    private static SegmentTrees filled() {
        SegmentTrees x = new SegmentTrees();
        x.type(0, NONE, 2, 0, false, true);
        x.type(1, 0, 2, 0, false, true);
        x.type(2, 1, 2, 0, false, true);
        x.type(3, NONE, 1, 0, false, true);
        x.insert(0);
        x.insert(1);
        x.insert(2);
        x.insert(2);
        x.work(0, 1);
        x.insert(0);
        x.path(0, 0, 1, 1);
        x.insert(1);
        x.clearPath();
        x.work(0, 2);
        x.insert(0);
        x.path(0, 0, 1, 2);
        x.insert(1);
        x.clearPath();
        x.work(0, 0);
        return x;
    }

    private static void working() {
        SegmentTrees x = new SegmentTrees();
        x.type(0, NONE, 4, NONE, false, true);
        check.refusesArgument("i = -1", () -> x.work(-1, 5));
        check.refusesArgument("i = 4", () -> x.work(4, 5));
        check.refusesArgument("i greatest", () -> x.work(Integer.MAX_VALUE, 5));
        int[] due = {Integer.MIN_VALUE, Integer.MAX_VALUE, -1, 7};
        for (int i = 0; i < 4; i++) {
            x.work(i, 99);
            x.work(i, due[i]);
        }
        x.insert(0);
        for (int i = 0; i < 4; i++) {
            check.same("word " + i, x.word(i), due[i]);
        }
        x.work(0, 1);
        check.same("the segment's words stay", x.word(0), Integer.MIN_VALUE);
    }

    private static void uniqueFromTheFront() {
        SegmentTrees x = filled();
        check.same("at the last", x.at(), 8);
        check.same("the first of all", x.unique(false), 1);
        check.same("and again", x.unique(false), 1);
        x.path(2, 0, 0, 0);
        check.same("the first of type 2", x.unique(false), 3);
        check.same("the position is at it", x.at(), 3);
    }

    private static void nextFromThePosition() {
        SegmentTrees x = filled();
        check.order("all", x, 1, 2, 3, 4, 5, 6, 7, 8);
        x.path(1, 0, 0, 0);
        check.same("none behind", x.next(false), 0);
        check.same("the first", x.unique(false), 2);
        check.same("the next", x.next(false), 6);
        check.same("the last", x.next(false), 8);
        x.clearPath();
        x.path(0, 0, 1, 1);
        check.same("what is in front is not found", x.next(false), 0);
        check.same("and the position stays", x.at(), 8);
    }

    private static void failedGetChangesNothing() {
        SegmentTrees x = filled();
        x.path(3, 0, 0, 0);
        check.same("unique", x.unique(true), 0);
        check.same("at after unique", x.at(), 8);
        check.same("next", x.next(true), 0);
        check.same("at after next", x.at(), 8);
        x.fix();
        check.same("within", x.within(true), 0);
        check.same("at after within", x.at(), 8);
        check.same("place", x.place(), 7);
        check.refusesState("nothing is held", x::delete);
    }

    private static void withinTheFixedParent() {
        SegmentTrees x = filled();
        x.unique(false);
        check.same("fixed", x.fix(), 1);
        check.same("a child", x.within(false), 2);
        check.same("below it", x.within(false), 3);
        check.same("and the next", x.within(false), 4);
        check.same("none more below", x.within(false), 0);
        check.same("the position stays", x.at(), 4);
        check.same("outside", x.next(false), 5);
        check.same("none behind this one", x.within(false), 0);
        x.unique(false);
        x.path(2, 0, 0, 0);
        check.same("by a path", x.within(false), 3);
        x.clearPath();
        x.path(0, 0, 0, 0);
        x.unique(false);
        check.same("the parent is not below itself", x.within(false), 0);
    }

    private static void withinFromThePosition() {
        SegmentTrees x = filled();
        x.path(0, 0, 1, 1);
        x.unique(false);
        check.same("fixed", x.fix(), 5);
        x.clearPath();
        check.same("to the front", x.unique(false), 1);
        check.same("from far in front", x.within(false), 6);
        x.unique(false);
        x.next(false);
        check.same("fixed below", x.fix(), 2);
        check.same("below that", x.within(false), 3);
    }

    private static void withinNeedsAParent() {
        SegmentTrees x = filled();
        check.refusesState("not fixed", () -> x.within(false));
        check.refusesState("not fixed, hold", () -> x.within(true));
        check.same("the position stays", x.at(), 8);
    }

    private static void fixing() {
        SegmentTrees x = filled();
        check.same("the segment at the position", x.fix(), 8);
        x.unique(true);
        x.delete();
        check.refusesState("in front of one", x::fix);
        check.same("the one fixed before stays: none below", x.within(false), 0);
        x.next(false);
        check.same("the next", x.fix(), 5);
        check.same("below it", x.within(false), 6);
    }

    private static void fixedUntilDeleted() {
        SegmentTrees x = filled();
        x.unique(false);
        x.next(false);
        x.fix();
        x.next(true);
        check.same("one below is deleted", x.delete(), 1);
        check.same("fixed still", x.within(false), 4);
        x.unique(true);
        check.same("one above is deleted", x.delete(), 3);
        check.refusesState("fixed no more", () -> x.within(false));
        x.next(true);
        x.fix();
        x.unique(true);
        x.delete();
        check.refusesState("deleted itself", () -> x.within(false));
    }

    private static void atAndPlace() {
        SegmentTrees x = filled();
        check.same("at the one inserted last", x.at(), 8);
        check.same("seven come before it", x.place(), 7);
        x.unique(false);
        check.same("none before the first", x.place(), 0);
        for (int i = 1; i < 8; i++) {
            x.next(false);
            check.same("before number " + i, x.place(), i);
        }
        x.path(0, 0, 1, 1);
        x.unique(true);
        x.delete();
        check.same("at none", x.at(), 0);
        check.same("in front of 7", x.place(), 4);
        x.clearPath();
        check.same("that one is behind", x.next(true), 7);
        x.delete();
        check.same("at none, behind all", x.at(), 0);
        check.same("behind all", x.place(), 4);
        check.same("none is there", x.next(false), 0);
        check.same("at none still", x.at(), 0);
    }

    private static void words() {
        SegmentTrees x = filled();
        x.work(0, 4);
        x.work(1, -4);
        x.insert(3);
        check.same("word 0", x.word(0), 4);
        check.refusesIndex("word 1 of 1", () -> x.word(1));
        check.refusesIndex("word -1", () -> x.word(-1));
        check.refusesIndex("word least", () -> x.word(Integer.MIN_VALUE));
        x.insert(0);
        check.same("word 1 of 2", x.word(1), -4);
        check.refusesIndex("word 2 of 2", () -> x.word(2));
        x.unique(true);
        x.delete();
        check.refusesState("at none", () -> x.word(0));
        check.refusesState("at none, and no such word", () -> x.word(9));
    }

    private static void heldOverWorkWordAndAt() {
        SegmentTrees x = filled();
        x.unique(true);
        x.work(1, 5);
        x.word(0);
        x.at();
        check.refusesArgument("work that throws", () -> x.work(4, 0));
        check.refusesIndex("word that throws", () -> x.word(7));
        check.isTrue("held", x.replace());
        check.same("replaced", x.word(1), 5);
        x.unique(false);
        x.fix();
        check.same("by next", x.next(true), 2);
        check.same("by within", x.within(true), 3);
        check.same("held", x.delete(), 1);
        check.same("by next", x.next(true), 4);
        check.same("held", x.delete(), 1);
    }

    private static void heldNoMore() {
        releases("type", x -> check.refusesState("type", () -> x.type(4, NONE, 1, 0, true, true)));
        releases("type, argument", x -> check.refusesArgument("type", () -> x.type(8, NONE, 1, 0, true, true)));
        releases("twins", x -> check.refusesArgument("twins", () -> x.twins(0, 0)));
        releases("twins, state", x -> check.refusesState("twins", () -> x.twins(0, 1)));
        releases("second", x -> check.refusesArgument("second", () -> x.second(0, 0)));
        releases("second, state", x -> check.refusesState("second", () -> x.second(1, 0)));
        releases("clearPath", SegmentTrees::clearPath);
        releases("path", x -> x.path(0, 0, 0, 0));
        releases("path that throws", x -> check.refusesArgument("path", () -> x.path(0, 0, 9, 0)));
        releases("path refused", x -> check.isFalse("path", x.path(0, 0, 0, 0) && x.path(3, 0, 0, 0)));
        releases("unique", x -> x.unique(false));
        releases("next", x -> x.next(false));
        releases("next that fails", x -> {
            x.path(0, 0, 1, 0);
            x.unique(true);
            check.same("none", x.next(true), 0);
        });
        releases("within that throws", x -> check.refusesState("within", () -> x.within(true)));
        releases("fix", SegmentTrees::fix);
        releases("place", SegmentTrees::place);
        releases("insert", x -> x.insert(3));
        releases("insert that throws", x -> check.refusesArgument("insert", () -> x.insert(7)));
        releases("replace refused", x -> {
            x.work(0, 99);
            check.isFalse("replace", x.replace());
        });
        releases("replace", x -> check.isTrue("replace", x.replace()));
        releases("delete", SegmentTrees::delete);
        releases("bySecond", x -> check.refusesState("bySecond", () -> x.bySecond(true)));
        releases("count", SegmentTrees::count);
        releases("segment", x -> x.segment(1, 0));
        releases("segment of none", x -> x.segment(99, 0));
    }

    private static void releases(String what, java.util.function.Consumer<SegmentTrees> call) {
        SegmentTrees x = filled();
        check.same("got to hold", x.unique(true), 1);
        call.accept(x);
        check.refusesState("held no more after " + what + ": replace", x::replace);
        x = filled();
        x.unique(true);
        call.accept(x);
        check.refusesState("held no more after " + what + ": delete", x::delete);
    }

    private static void gettingWithoutHold() {
        SegmentTrees x = filled();
        x.unique(false);
        check.refusesState("unique", x::replace);
        x.next(false);
        check.refusesState("next", x::delete);
        x.unique(false);
        x.fix();
        x.within(false);
        check.refusesState("within", x::delete);
        check.same("all are there", x.count(), 8);
        check.same("the position stays", x.at(), 2);
    }
}
