/** Promises 15 to 17: insert, replace and delete. */
public final class ChangeTest {
    private static final int NONE = SegmentTrees.NONE;
    private static final Check check = new Check();

    public static void main(String[] args) {
        insertArguments();
        insertBySequence();
        insertTies();
        insertWithoutSequence();
        insertFindsItsParent();
        insertParentOfAnotherType();
        insertUnique();
        insertUniqueWithoutSequence();
        insertFull();
        insertRefusalsInOrder();
        refusedInsertChangesNothing();
        numbersNeverComeAgain();
        insertJoinsTwin();
        twinWithTheLeastNumber();
        twinsBelowOneAnother();
        replaceWords();
        replaceRefused();
        replaceWithoutSequence();
        replaceTwin();
        deleteTree();
        deletePartsTwins();
        deleteBothTwins();
        deleteMovesThePosition();
        deleteAll();
        check.end();
    }

    private static int put(SegmentTrees x, int t, int... words) {
        for (int i = 0; i < words.length; i++) {
            x.work(i, words[i]);
        }
        return x.insert(t);
    }

    private static SegmentTrees oneType(int length, int sequence, boolean unique, boolean last) {
        SegmentTrees x = new SegmentTrees();
        x.type(0, NONE, length, sequence, unique, last);
        return x;
    }

    private static void insertArguments() {
        SegmentTrees x = oneType(1, 0, false, true);
        check.refusesArgument("not declared", () -> x.insert(1));
        check.refusesArgument("type -1", () -> x.insert(-1));
        check.refusesArgument("type 8", () -> x.insert(8));
        check.same("nothing was inserted", x.count(), 0);
    }

    private static void insertBySequence() {
        SegmentTrees x = oneType(2, 1, false, true);
        put(x, 0, 0, 0);
        check.same("the position is at it", x.at(), 1);
        put(x, 0, 9, Integer.MIN_VALUE);
        put(x, 0, 3, Integer.MAX_VALUE);
        put(x, 0, 5, -1);
        check.same("the position is at the last one", x.at(), 4);
        check.same("and one comes before it", x.place(), 1);
        check.order("signed, by word 1", x, 2, 4, 1, 3);
    }

    private static void insertTies() {
        SegmentTrees last = oneType(1, 0, false, true);
        SegmentTrees first = oneType(1, 0, false, false);
        for (int v : new int[] {5, 5, 3, 7, 5, 3}) {
            put(last, 0, v);
            put(first, 0, v);
        }
        check.order("ties last", last, 3, 6, 1, 2, 5, 4);
        check.order("ties first", first, 6, 3, 5, 2, 1, 4);
    }

    private static void insertWithoutSequence() {
        for (int last = 0; last < 2; last++) {
            SegmentTrees x = oneType(1, NONE, false, last == 1);
            put(x, 0, 5);
            put(x, 0, 1);
            put(x, 0, 5);
            check.order("as they were inserted", x, 1, 2, 3);
        }
    }

    private static SegmentTrees threeLevels() {
        SegmentTrees x = new SegmentTrees();
        x.type(0, NONE, 1, 0, false, true);
        x.type(1, 0, 1, 0, false, true);
        x.type(2, 1, 1, 0, false, true);
        x.type(3, NONE, 1, 0, false, true);
        x.type(4, 3, 1, 0, false, true);
        return x;
    }

    private static void insertFindsItsParent() {
        SegmentTrees x = threeLevels();
        check.same("no parent", put(x, 1, 0), -2);
        put(x, 0, 2);
        check.same("no parent of the very type", put(x, 2, 0), -2);
        put(x, 0, 1);
        check.same("inserted", put(x, 1, 5), 3);
        check.same("below the first in the order", x.segment(3, 1), 2);
        x.path(0, 0, 1, 2);
        put(x, 1, 6);
        check.same("by the path", x.segment(4, 1), 1);
        x.path(1, 0, 1, 99);
        put(x, 1, 7);
        check.same("what is stated below does not matter", x.segment(5, 1), 1);
        check.same("its parent's level does", put(x, 2, 0), -2);
        x.clearPath();
        x.path(0, 0, 1, 2);
        x.path(2, 0, 1, 99);
        put(x, 2, 0);
        check.same("a level above that", x.segment(6, 1), 4);
        x.clearPath();
        x.path(1, 0, 1, 7);
        put(x, 2, 0);
        check.same("a level alone", x.segment(7, 1), 5);
        check.same("a root needs no parent", put(x, 0, 3), 8);
        check.order("path of type 1", x, 5);
    }

    private static void insertParentOfAnotherType() {
        SegmentTrees x = threeLevels();
        put(x, 0, 0);
        put(x, 3, 0);
        x.path(3, 0, 0, 0);
        check.same("type 0 is asked for, type 3 is stated", put(x, 1, 0), -2);
        check.same("type 3 is asked for", put(x, 4, 0), 3);
        check.same("its parent", x.segment(3, 1), 2);
        x.path(4, 0, 0, 0);
        x.clearPath();
        x.path(0, 0, 0, 0);
        check.same("type 0 is stated", put(x, 4, 0), -2);
        check.same("a root of any type", put(x, 3, 0), 4);
    }

    private static void insertUnique() {
        SegmentTrees x = new SegmentTrees();
        x.type(0, NONE, 2, 0, true, true);
        x.type(1, 0, 2, 1, true, false);
        x.type(2, 0, 2, 1, true, false);
        put(x, 0, 1, 1);
        check.same("the same sequence", put(x, 0, 1, 2), -3);
        check.same("another one", put(x, 0, 2, 1), 2);
        check.same("a child", put(x, 1, 1, 1), 3);
        check.same("the same sequence again", put(x, 1, 9, 1), -3);
        check.same("of another type", put(x, 2, 9, 1), 4);
        x.path(0, 0, 1, 2);
        check.same("below another parent", put(x, 1, 1, 1), 5);
        check.same("there too", put(x, 1, 1, 1), -3);
        x.path(1, 1, 1, 1);
        x.unique(true);
        x.delete();
        check.same("free again", put(x, 1, 1, 1), 6);
    }

    private static void insertUniqueWithoutSequence() {
        SegmentTrees x = oneType(1, NONE, true, false);
        check.same("first", x.insert(0), 1);
        check.same("unique is not looked at", x.insert(0), 2);
        check.order("nor first", x, 1, 2);
    }

    private static void insertFull() {
        SegmentTrees x = threeLevels();
        for (int i = 1; i <= 60; i++) {
            check.same("inserted", put(x, i == 1 ? 0 : i % 2, 100 - i), i);
        }
        check.same("full", put(x, 0, 0), -4);
        check.same("full for a child", put(x, 1, 0), -4);
        check.same("sixty", x.count(), 60);
        x.path(1, 0, 0, 0);
        x.unique(true);
        x.delete();
        check.same("room for one", put(x, 0, 0), 61);
        check.same("full again", put(x, 0, 0), -4);
    }

    private static void insertRefusalsInOrder() {
        SegmentTrees x = new SegmentTrees();
        x.type(0, NONE, 1, 0, true, true);
        x.type(1, 0, 1, 0, true, true);
        for (int i = 0; i < 60; i++) {
            put(x, 0, i);
        }
        check.same("not unique before full", put(x, 0, 5), -3);
        check.same("full", put(x, 0, 60), -4);
        x.path(0, 0, 1, 99);
        check.same("no parent before full", put(x, 1, 0), -2);
        check.refusesArgument("not declared before all", () -> x.insert(2));
    }

    private static void refusedInsertChangesNothing() {
        SegmentTrees x = new SegmentTrees();
        x.type(0, NONE, 1, 0, true, true);
        x.type(1, 0, 1, 0, false, true);
        check.same("no parent", x.insert(1), -2);
        check.same("at none", x.at(), 0);
        x.type(2, NONE, 1, 0, true, true);
        put(x, 0, 1);
        put(x, 0, 2);
        x.unique(false);
        check.same("not unique", x.insert(0), -3);
        check.same("the position stays", x.at(), 1);
        check.same("two", x.count(), 2);
        check.same("no number is lost", put(x, 0, 3), 3);
    }

    private static void numbersNeverComeAgain() {
        SegmentTrees x = oneType(1, 0, false, true);
        put(x, 0, 1);
        put(x, 0, 2);
        x.next(false);
        x.path(0, 0, 1, 2);
        x.unique(true);
        x.delete();
        check.same("a new number", put(x, 0, 2), 3);
        check.same("the old one is gone", x.segment(2, 0), NONE);
        check.order("the new one", x, 3);
    }

    private static SegmentTrees twinTypes(boolean last) {
        SegmentTrees x = new SegmentTrees();
        x.type(0, NONE, 1, 0, false, true);
        x.type(1, 0, 3, 1, false, last);
        x.type(2, NONE, 1, 0, false, true);
        x.type(3, 2, 3, 1, false, last);
        x.twins(3, 1);
        x.insert(0);
        x.insert(2);
        return x;
    }

    private static void insertJoinsTwin() {
        SegmentTrees x = twinTypes(true);
        put(x, 1, 7, 5, 8);
        check.same("alone", x.segment(3, 2), 0);
        put(x, 3, 9, 6, 9);
        check.same("another sequence", x.segment(4, 2), 0);
        put(x, 3, 1, 5, 2);
        check.same("its twin", x.segment(5, 2), 3);
        check.same("the twin's twin", x.segment(3, 2), 5);
        check.same("the twin's word 0", x.segment(3, 10), 1);
        check.same("the twin's word 1", x.segment(3, 11), 5);
        check.same("the twin's word 2", x.segment(3, 12), 2);
        check.same("one that is no twin", x.segment(4, 10), 9);
        check.same("position", x.at(), 5);
        put(x, 1, 4, 5, 4);
        check.same("all twins are taken", x.segment(6, 2), 0);
        check.same("the words of those stay", x.segment(5, 10), 1);
        check.same("a root of another type", put(x, 0, 5), 7);
        check.same("has no twin", x.segment(7, 2), 0);
    }

    private static void twinWithTheLeastNumber() {
        SegmentTrees x = twinTypes(false);
        put(x, 1, 0, 5, 0);
        put(x, 1, 1, 5, 0);
        put(x, 1, 2, 5, 0);
        check.order("ties first", x, 1, 5, 4, 3, 2);
        put(x, 3, 8, 5, 0);
        check.same("the least number, not the first", x.segment(6, 2), 3);
        put(x, 3, 9, 5, 0);
        check.same("the least that is free", x.segment(7, 2), 4);
        check.same("its words", x.segment(4, 10), 9);
        check.same("those of the first pair stay", x.segment(3, 10), 8);
        check.same("one is free", x.segment(5, 2), 0);
    }

    private static void twinsBelowOneAnother() {
        SegmentTrees x = new SegmentTrees();
        x.type(0, NONE, 2, 0, false, true);
        x.type(1, 0, 2, 0, false, true);
        x.twins(0, 1);
        put(x, 0, 1, 2);
        put(x, 1, 1, 3);
        check.same("the parent is the twin", x.segment(2, 2), 1);
        check.same("its words", x.segment(1, 11), 3);
        x.unique(true);
        check.same("both are deleted", x.delete(), 2);
        check.same("none is left", x.count(), 0);
    }

    private static void replaceWords() {
        SegmentTrees x = oneType(3, 1, false, true);
        put(x, 0, 1, 2, 3);
        put(x, 0, 4, 2, 6);
        x.unique(true);
        x.work(0, 7);
        x.work(2, 9);
        x.work(3, 8);
        check.isTrue("replaced", x.replace());
        check.same("word 0", x.word(0), 7);
        check.same("word 1", x.word(1), 2);
        check.same("word 2", x.word(2), 9);
        check.same("the position stays", x.at(), 1);
        check.same("others stay", x.segment(2, 10), 4);
        check.order("the order stays", x, 1, 2);
        check.refusesState("held no more", x::replace);
    }

    private static void replaceRefused() {
        SegmentTrees x = oneType(2, 0, false, true);
        put(x, 0, 1, 2);
        x.unique(true);
        x.work(0, 5);
        x.work(1, 6);
        check.isFalse("another sequence", x.replace());
        check.same("word 0 stays", x.word(0), 1);
        check.same("word 1 stays", x.word(1), 2);
        check.refusesState("held no more", x::replace);
        x.insert(0);
        check.same("the words to work with stay", x.word(1), 6);
    }

    private static void replaceWithoutSequence() {
        SegmentTrees x = oneType(2, NONE, true, true);
        put(x, 0, 1, 2);
        put(x, 0, 0, 0);
        x.unique(true);
        x.work(0, 8);
        check.isTrue("nothing has to be the same", x.replace());
        check.same("replaced", x.segment(1, 10), 8);
        check.order("the order stays", x, 1, 2);
    }

    private static void replaceTwin() {
        SegmentTrees x = twinTypes(true);
        put(x, 1, 1, 5, 1);
        put(x, 3, 2, 5, 2);
        x.path(1, 0, 0, 0);
        x.unique(true);
        x.work(0, 3);
        x.work(2, 4);
        check.isTrue("replaced", x.replace());
        check.same("its twin's word 0", x.segment(4, 10), 3);
        check.same("its twin's word 2", x.segment(4, 12), 4);
        x.clearPath();
        x.path(3, 0, 0, 0);
        x.unique(true);
        x.work(0, 6);
        check.isTrue("the other way", x.replace());
        check.same("the first one's word 0", x.segment(3, 10), 6);
        x.unique(true);
        x.work(1, 9);
        x.work(0, 99);
        check.isFalse("another sequence", x.replace());
        check.same("the twin's words stay", x.segment(3, 10), 6);
        check.same("they are twins still", x.segment(3, 2), 4);
    }

    private static void deleteTree() {
        SegmentTrees x = threeLevels();
        put(x, 0, 0);
        put(x, 1, 0);
        put(x, 2, 0);
        put(x, 2, 1);
        put(x, 1, 1);
        put(x, 0, 1);
        check.refusesState("none is held", x::delete);
        x.path(1, 0, 1, 0);
        x.unique(true);
        check.same("with all below", x.delete(), 3);
        x.clearPath();
        check.order("the others", x, 1, 5, 6);
        check.same("gone", x.segment(2, 0), NONE);
        check.same("gone with it", x.segment(3, 0), NONE);
        check.same("gone with it too", x.segment(4, 0), NONE);
        check.refusesState("held no more", x::delete);
        check.same("three", x.count(), 3);
    }

    private static void deletePartsTwins() {
        SegmentTrees x = twinTypes(true);
        put(x, 1, 1, 5, 1);
        put(x, 3, 2, 5, 2);
        x.unique(true);
        check.same("the root and a twin", x.delete(), 2);
        check.same("the twin stays", x.segment(4, 0), 3);
        check.same("with its words", x.segment(4, 12), 2);
        check.same("and no twin", x.segment(4, 2), 0);
        put(x, 0, 0);
        put(x, 1, 7, 5, 7);
        check.same("free for another", x.segment(6, 2), 4);
        x.path(3, 0, 0, 0);
        x.unique(true);
        x.delete();
        check.same("the new one stays", x.segment(6, 12), 7);
        x.clearPath();
        x.path(1, 0, 0, 0);
        x.unique(true);
        x.work(0, 3);
        x.replace();
        check.same("a replace without a twin", x.segment(6, 10), 3);
    }

    private static void deleteBothTwins() {
        SegmentTrees x = new SegmentTrees();
        x.type(0, NONE, 1, 0, false, true);
        x.type(1, 0, 1, 0, false, true);
        x.type(2, 0, 1, 0, false, true);
        x.twins(1, 2);
        x.insert(0);
        x.insert(1);
        x.insert(2);
        x.insert(0);
        x.unique(true);
        check.same("both twins below", x.delete(), 3);
        x.insert(1);
        check.same("no twin that is gone", x.segment(5, 2), 0);
        check.order("the others", x, 4, 5);
    }

    private static void deleteMovesThePosition() {
        SegmentTrees x = threeLevels();
        put(x, 0, 0);
        put(x, 1, 0);
        put(x, 2, 0);
        put(x, 1, 1);
        put(x, 0, 1);
        x.unique(false);
        check.same("held", x.next(true), 2);
        x.delete();
        check.same("at none", x.at(), 0);
        check.same("one before", x.place(), 1);
        check.same("the next one is behind", x.next(true), 4);
        x.delete();
        check.same("in front of a root", x.next(true), 5);
        x.delete();
        check.same("behind all", x.next(false), 0);
        check.same("one before all that", x.place(), 1);
        put(x, 0, 9);
        check.same("at the one inserted", x.at(), 6);
        check.same("none behind", x.next(false), 0);
    }

    private static void deleteAll() {
        SegmentTrees x = oneType(1, 0, false, true);
        put(x, 0, 0);
        x.unique(true);
        check.same("one", x.delete(), 1);
        check.same("none", x.count(), 0);
        check.same("no place before", x.place(), 0);
        check.same("nothing to get", x.unique(true), 0);
        check.same("nothing behind", x.next(true), 0);
        check.same("the next number", put(x, 0, 0), 2);
    }
}
