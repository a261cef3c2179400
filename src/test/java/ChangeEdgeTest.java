/** The sentences of the promises 15 to 17 that name a boundary: insert, replace and delete. */
public final class ChangeEdgeTest {
    private static final int NONE = SegmentTrees.NONE;
    private static final int LEAST = Integer.MIN_VALUE;
    private static final int GREATEST = Integer.MAX_VALUE;
    private static final Check check = new Check();

    public static void main(String[] args) {
        insertTakesItsWords();
        insertMovesThePosition();
        insertBelowTheFirstInTheOrder();
        insertByThePathOfItsParentsLevel();
        insertByThePathAbove();
        insertWhateverIsStatedBelow();
        insertWithAnotherTypeStated();
        insertWithoutAParent();
        insertThatIsNotUnique();
        insertUniqueByLeastAndGreatest();
        insertUniqueAgainAfterADelete();
        insertWhenThereAre60();
        insertRefusalsInTheirOrder();
        insertOfATypeThatIsNotDeclared();
        insertWithoutATwinThere();
        insertWithTheLeastTwin();
        insertWithATwinThatIsTaken();
        insertWithATwinOfTheLeastSequence();
        insertGivesItsWordsToTheTwin();
        insertHasNoTwinOfItsOwnType();
        insertBelowItsTwin();
        insertKeepsTheTwinInItsPlace();
        replaceGivesAllWords();
        replaceWithTheSameWords();
        replaceAnotherSequence();
        replaceWithoutASequence();
        replaceGivesTheTwinItsWords();
        replaceOfATwinThatIsGone();
        replaceBeyondTheLength();
        replaceWithoutAHold();
        deleteOne();
        deleteAllBelow();
        deleteSixty();
        deleteKeepsTwins();
        deleteBothTwins();
        deleteMakesTwinsFree();
        deleteTheLast();
        deleteTheFirst();
        deleteTheLastBelow();
        deleteOverAndOver();
        deleteWithoutAHold();
        check.end();
    }

    private static int put(SegmentTrees x, int t, int... words) {
        return States.put(x, t, words);
    }

    /** The types 0 .. 3 one below the other, each of two words, the first its sequence. */
    private static SegmentTrees fourLevels() {
        SegmentTrees x = new SegmentTrees();
        for (int t = 0; t < 4; t++) {
            x.type(t, t - 1, 2, 0, false, true);
        }
        return x;
    }

    /** Types 0 and 1, twins of three words, the middle one their sequence. */
    private static SegmentTrees twins() {
        SegmentTrees x = new SegmentTrees();
        x.type(0, NONE, 3, 1, false, true);
        x.type(1, NONE, 3, 1, false, false);
        x.twins(0, 1);
        return x;
    }

    private static void hold(SegmentTrees x, int t, int word, int value) {
        x.clearPath();
        x.path(t, word, 1, value);
        check.isTrue("one to hold", x.unique(true) > 0);
    }

    /** 15: "Inserts a segment of type t with the words to work with: its number" */
    private static void insertTakesItsWords() {
        for (int length = 1; length <= 4; length++) {
            SegmentTrees x = new SegmentTrees();
            x.type(0, NONE, length, NONE, false, true);
            int[] words = {LEAST, GREATEST, 0, -1};
            check.same("its number", put(x, 0, words), 1);
            for (int i = 0; i < length; i++) {
                check.same("word " + i, x.word(i), words[i]);
                x.work(i, 5);
                check.same("its own", x.word(i), words[i]);
            }
        }
    }

    /** 15: "the position is at it" */
    private static void insertMovesThePosition() {
        SegmentTrees x = fourLevels();
        for (int t = 0; t < 4; t++) {
            x.insert(t);
            check.same("at the one inserted", x.at(), t + 1);
            check.same("in its place", x.place(), t);
        }
        put(x, 0, LEAST);
        check.same("at the one in front of all", x.at(), 5);
        check.same("none before it", x.place(), 0);
        x.unique(true);
        x.delete();
        put(x, 0, GREATEST);
        check.same("at the one behind all", x.at(), 6);
        check.same("four before it", x.place(), 4);
        check.same("none behind it", x.next(false), 0);
    }

    /** 15: "Its parent is the first segment in the order that is of the parent's type" */
    private static void insertBelowTheFirstInTheOrder() {
        SegmentTrees x = fourLevels();
        put(x, 0, 5);
        put(x, 0, GREATEST);
        put(x, 0, LEAST);
        check.same("with three roots", x.insert(1), 4);
        check.same("not the one inserted first or last", x.segment(4, 1), 3);
        x.unique(true);
        x.delete();
        put(x, 1, 0);
        check.same("the first that is left, not where the position is", x.segment(5, 1), 1);
    }

    /** 15: "and meets what the path states for its level" */
    private static void insertByThePathOfItsParentsLevel() {
        SegmentTrees x = fourLevels();
        for (int v : new int[] {LEAST, 0, GREATEST}) {
            put(x, 0, v);
        }
        x.path(0, 0, 1, GREATEST);
        check.same("inserted", x.insert(1), 4);
        check.same("below the last", x.segment(4, 1), 3);
        x.clearPath();
        x.path(0, 0, 5, LEAST);
        x.path(0, 0, 3, GREATEST);
        x.insert(1);
        check.same("below the middle one", x.segment(5, 1), 2);
        x.path(0, 0, 2, 0);
        check.same("below none", x.insert(1), -2);
    }

    /** 15: "and those above" */
    private static void insertByThePathAbove() {
        SegmentTrees x = fourLevels();
        for (int t = 0; t < 3; t++) {
            put(x, t, 1);
        }
        put(x, 0, 2);
        x.path(0, 0, 1, 2);
        for (int t = 1; t < 3; t++) {
            put(x, t, 1);
        }
        check.same("by level 1 alone", x.insert(3), 7);
        check.same("below 6, whose root is 4", x.segment(7, 1), 6);
        x.path(1, 0, 2, 1);
        check.same("level 2 does not meet it", x.insert(3), -2);
    }

    /** 15: "(what is stated below does not matter)" */
    private static void insertWhateverIsStatedBelow() {
        SegmentTrees x = fourLevels();
        for (int t = 3; t >= 0; t--) {
            x.path(t, 0, 1, 99);
        }
        check.same("a root, which has none above", x.insert(0), 1);
        check.same("its level matters for the next", x.insert(1), -2);
        x.clearPath();
        for (int t = 3; t >= 1; t--) {
            x.path(t, 0, 1, 99);
        }
        check.same("its own level does not matter", x.insert(1), 2);
        check.same("the parent's does", x.insert(2), -2);
    }

    private static void insertWithAnotherTypeStated() {
        SegmentTrees x = new SegmentTrees();
        x.type(0, NONE, 1, 0, false, true);
        x.type(1, NONE, 1, 0, false, true);
        x.type(2, 0, 1, 0, false, true);
        x.type(3, 1, 1, 0, false, true);
        x.insert(0);
        x.insert(1);
        x.path(1, 0, 0, 0);
        check.same("a root of another type", x.insert(0), 3);
        check.same("below type 0, when 1 is stated", x.insert(2), -2);
        check.same("below type 1", x.insert(3), 4);
        x.path(3, 0, 0, 0);
        check.same("another type of its own level", x.insert(2), -2);
    }

    /** 15: "-2 when there is none" */
    private static void insertWithoutAParent() {
        SegmentTrees x = fourLevels();
        for (int t = 1; t < 4; t++) {
            check.same("nothing is there", x.insert(t), -2);
        }
        x.insert(0);
        check.same("two levels above is not enough", x.insert(2), -2);
        x.insert(1);
        check.same("no parent of level 3", x.insert(3), -2);
        x.insert(2);
        check.same("there is one", x.insert(3), 4);
        x.unique(true);
        x.delete();
        check.same("there was one", x.insert(1), -2);
        check.same("none is there", x.count(), 0);
        check.same("at none", x.at(), 0);
    }

    /** 15: "-3 when t is UNIQUE and a sibling has the same sequence" */
    private static void insertThatIsNotUnique() {
        for (int sequence = 0; sequence < 4; sequence++) {
            SegmentTrees x = new SegmentTrees();
            x.type(0, NONE, 4, sequence, true, true);
            x.type(1, NONE, 4, sequence, false, true);
            put(x, 0, 1, 2, 3, 4);
            check.same("all the same", x.insert(0), -3);
            for (int i = 0; i < 4; i++) {
                x.work(i, i == sequence ? i + 1 : 99);
            }
            check.same("the sequence alone is the same", x.insert(0), -3);
            put(x, 0, 1, 2, 3, 4);
            x.work(sequence, 99);
            check.same("all but the sequence are the same", x.insert(0), 2);
            check.same("one that is not unique", x.insert(1), 3);
            check.same("and again", x.insert(1), 4);
        }
    }

    private static void insertUniqueByLeastAndGreatest() {
        SegmentTrees x = new SegmentTrees();
        x.type(0, NONE, 1, 0, true, true);
        int number = 0;
        for (int v : new int[] {LEAST, GREATEST, 0, -1, LEAST + 1, GREATEST - 1}) {
            number++;
            check.same("once", put(x, 0, v), number);
            check.same("twice", put(x, 0, v), -3);
        }
        check.order("in the order", x, 1, 5, 4, 3, 6, 2);
    }

    private static void insertUniqueAgainAfterADelete() {
        SegmentTrees x = new SegmentTrees();
        x.type(0, NONE, 1, 0, true, true);
        put(x, 0, 7);
        x.unique(true);
        x.delete();
        check.same("none is there", put(x, 0, 7), 2);
        check.same("one is there", put(x, 0, 7), -3);
    }

    /** 15: "-4 when there are 60" */
    private static void insertWhenThereAre60() {
        SegmentTrees x = fourLevels();
        for (int i = 1; i <= 59; i++) {
            x.insert(i <= 4 ? i - 1 : 3);
        }
        check.same("the sixtieth", x.insert(2), 60);
        for (int t = 0; t < 4; t++) {
            check.same("no sixty-first", x.insert(t), -4);
        }
        check.same("sixty", x.count(), 60);
        check.same("at the last one still", x.at(), 60);
        x.unique(true);
        x.delete();
        check.same("room again", x.insert(0), 61);
    }

    /** 15: "(in this order; all stays then)" */
    private static void insertRefusalsInTheirOrder() {
        SegmentTrees x = new SegmentTrees();
        x.type(0, NONE, 1, 0, true, true);
        x.type(1, 0, 1, 0, true, true);
        put(x, 0, 0);
        put(x, 1, 0);
        x.path(0, 0, 1, 99);
        check.same("no parent; it would not be unique", put(x, 1, 0), -2);
        x.clearPath();
        for (int i = 1; i <= 58; i++) {
            put(x, 0, i);
        }
        check.same("not unique, and sixty", put(x, 0, 0), -3);
        check.same("a child that is not unique, and sixty", put(x, 1, 0), -3);
        check.same("unique, and sixty", put(x, 1, 1), -4);
        x.path(0, 0, 1, 99);
        check.same("no parent, and sixty", put(x, 1, 1), -2);
        check.same("the position stays", x.at(), 60);
        x.clearPath();
        x.unique(true);
        x.delete();
        check.same("no number was lost", put(x, 0, 99), 61);
    }

    /** 15: "IllegalArgumentException when t is not declared." */
    private static void insertOfATypeThatIsNotDeclared() {
        SegmentTrees x = fourLevels();
        for (int t : new int[] {-1, 4, 7, 8, LEAST, GREATEST}) {
            check.refusesArgument("type " + t, () -> x.insert(t));
        }
        check.same("the least type", x.insert(0), 1);
    }

    /** 15: "its twin is the segment of that type .. , if there is one" */
    private static void insertWithoutATwinThere() {
        SegmentTrees x = twins();
        put(x, 0, 1, 5, 1);
        check.same("none of that type", x.segment(1, 2), 0);
        put(x, 1, 2, 4, 2);
        put(x, 1, 2, 6, 2);
        check.same("none with the same sequence", x.segment(1, 2), 0);
        check.same("nor for these", x.segment(2, 2) + x.segment(3, 2), 0);
        check.same("the words stay", x.segment(1, 10), 1);
    }

    /** 15: "with the least number that has the same sequence and no twin" */
    private static void insertWithTheLeastTwin() {
        SegmentTrees x = twins();
        for (int i = 0; i < 3; i++) {
            put(x, 1, i, 5, i);
        }
        check.order("ties first", x, 3, 2, 1);
        for (int i = 1; i <= 3; i++) {
            put(x, 0, 10 * i, 5, 0);
            check.same("the least that is free", x.segment(3 + i, 2), i);
        }
        put(x, 0, 40, 5, 0);
        check.same("none is free", x.segment(7, 2), 0);
        put(x, 1, 50, 5, 0);
        check.same("one is free for another", x.segment(8, 2), 7);
        int[] due = {10, 20, 30, 10, 20, 30, 50, 50};
        for (int number = 1; number <= 8; number++) {
            check.same("word 0 of " + number, x.segment(number, 10), due[number - 1]);
        }
    }

    private static void insertWithATwinThatIsTaken() {
        SegmentTrees x = twins();
        put(x, 0, 1, 5, 1);
        put(x, 1, 2, 5, 2);
        put(x, 1, 3, 5, 3);
        check.same("the first pair", x.segment(1, 2), 2);
        check.same("the third has none", x.segment(3, 2), 0);
        check.same("and does not change the words", x.segment(1, 10), 2);
    }

    private static void insertWithATwinOfTheLeastSequence() {
        for (int sequence : new int[] {LEAST, GREATEST, 0, -1}) {
            SegmentTrees x = twins();
            put(x, 1, 1, sequence, 1);
            put(x, 0, 2, sequence, 2);
            check.same("twins by " + sequence, x.segment(1, 2), 2);
            put(x, 1, 3, -sequence - 1, 3);
            check.same("not by another", x.segment(3, 2), 0);
        }
    }

    /** 15: "both have the words inserted from then on" */
    private static void insertGivesItsWordsToTheTwin() {
        SegmentTrees x = twins();
        put(x, 0, 1, 5, 2);
        put(x, 1, LEAST, 5, GREATEST);
        for (int number = 1; number <= 2; number++) {
            check.same("word 0 of " + number, x.segment(number, 10), LEAST);
            check.same("word 1 of " + number, x.segment(number, 11), 5);
            check.same("word 2 of " + number, x.segment(number, 12), GREATEST);
            check.same("no word 3 of " + number, x.segment(number, 13), NONE);
        }
        check.same("at the one inserted", x.at(), 2);
    }

    private static void insertHasNoTwinOfItsOwnType() {
        SegmentTrees x = twins();
        put(x, 0, 1, 5, 1);
        put(x, 0, 2, 5, 2);
        check.same("of its own type", x.segment(2, 2), 0);
        check.same("words of its own", x.segment(1, 10), 1);
        SegmentTrees y = new SegmentTrees();
        y.type(0, NONE, 1, 0, false, true);
        y.type(1, NONE, 1, 0, false, true);
        y.insert(0);
        y.insert(1);
        check.same("types that are no twins", y.segment(1, 2) + y.segment(2, 2), 0);
    }

    private static void insertBelowItsTwin() {
        SegmentTrees x = new SegmentTrees();
        x.type(0, NONE, 2, 0, true, true);
        x.type(1, 0, 2, 0, true, true);
        x.twins(0, 1);
        put(x, 0, 5, 1);
        check.same("inserted below", put(x, 1, 5, 2), 2);
        check.same("its parent", x.segment(2, 1), 1);
        check.same("is its twin", x.segment(2, 2), 1);
        check.same("with the same words", x.segment(1, 11), 2);
    }

    private static void insertKeepsTheTwinInItsPlace() {
        SegmentTrees x = twins();
        put(x, 0, 1, 5, 1);
        put(x, 0, 2, 5, 2);
        put(x, 0, 3, 5, 3);
        put(x, 1, 9, 5, 9);
        check.order("the order stays", x, 1, 2, 3, 4);
    }

    /** 16: "The words to work with become those of the segment that is held .. : true" */
    private static void replaceGivesAllWords() {
        for (int length = 1; length <= 4; length++) {
            SegmentTrees x = new SegmentTrees();
            x.type(0, NONE, length, NONE, true, true);
            put(x, 0, 1, 2, 3, 4);
            x.unique(true);
            int[] words = {GREATEST, LEAST, -1, 0};
            for (int i = 0; i < 4; i++) {
                x.work(i, words[i]);
            }
            check.isTrue("replaced", x.replace());
            for (int i = 0; i < length; i++) {
                check.same("word " + i, x.word(i), words[i]);
            }
            check.same("at it still", x.at(), 1);
        }
    }

    private static void replaceWithTheSameWords() {
        SegmentTrees x = new SegmentTrees();
        x.type(0, NONE, 2, 1, true, true);
        put(x, 0, 5, 6);
        x.unique(true);
        check.isTrue("the same words, of a unique type", x.replace());
        check.same("word 0", x.word(0), 5);
        check.same("word 1", x.word(1), 6);
        check.same("one is there", x.count(), 1);
    }

    /** 16: "false, and all stays (but that it is held no more), when the sequence would be another one" */
    private static void replaceAnotherSequence() {
        int[][] pairs = {{0, 1}, {0, -1}, {LEAST, GREATEST}, {GREATEST, LEAST}, {LEAST, LEAST + 1}, {5, GREATEST}};
        for (int[] pair : pairs) {
            SegmentTrees x = new SegmentTrees();
            x.type(0, NONE, 4, 3, false, true);
            put(x, 0, 1, 2, 3, pair[0]);
            x.unique(true);
            for (int i = 0; i < 3; i++) {
                x.work(i, 77);
            }
            x.work(3, pair[1]);
            check.isFalse("another sequence", x.replace());
            check.same("word 0 stays", x.word(0), 1);
            check.same("word 3 stays", x.word(3), pair[0]);
            x.work(3, pair[0]);
            check.refusesState("held no more", x::replace);
            x.unique(true);
            check.isTrue("held again, and with its sequence", x.replace());
            check.same("word 0", x.word(0), 77);
        }
    }

    private static void replaceWithoutASequence() {
        SegmentTrees x = new SegmentTrees();
        x.type(0, NONE, 1, NONE, true, false);
        put(x, 0, 1);
        put(x, 0, 2);
        x.unique(true);
        x.work(0, 2);
        check.isTrue("any words", x.replace());
        check.order("in its place", x, 1, 2);
        check.same("as another one has", x.segment(1, 10), 2);
    }

    /** 16: "and of its twin" */
    private static void replaceGivesTheTwinItsWords() {
        for (int held = 0; held < 2; held++) {
            SegmentTrees x = twins();
            put(x, 0, 1, 5, 1);
            put(x, 1, 2, 5, 2);
            put(x, 1, 3, 5, 3);
            x.path(held, 0, 1, 2);
            check.same("one of the twins is held", x.unique(true), held + 1);
            x.work(0, LEAST);
            x.work(2, GREATEST);
            check.isTrue("replaced", x.replace());
            for (int number = 1; number <= 2; number++) {
                check.same("word 0 of " + number, x.segment(number, 10), LEAST);
                check.same("word 1 of " + number, x.segment(number, 11), 5);
                check.same("word 2 of " + number, x.segment(number, 12), GREATEST);
            }
            check.same("one that is no twin", x.segment(3, 10), 3);
            check.same("at the one held", x.at(), held + 1);
        }
    }

    private static void replaceOfATwinThatIsGone() {
        SegmentTrees x = twins();
        put(x, 0, 1, 5, 1);
        put(x, 1, 2, 5, 2);
        hold(x, 1, 1, 5);
        x.delete();
        hold(x, 0, 1, 5);
        x.work(0, 9);
        check.isTrue("replaced alone", x.replace());
        check.same("its word", x.segment(1, 10), 9);
        check.same("the other is gone", x.segment(2, 10), NONE);
    }

    private static void replaceBeyondTheLength() {
        SegmentTrees x = new SegmentTrees();
        x.type(0, NONE, 1, 0, false, true);
        put(x, 0, 5);
        x.unique(true);
        for (int i = 1; i < 4; i++) {
            x.work(i, 9);
        }
        check.isTrue("words beyond the length do not matter", x.replace());
        check.refusesIndex("it has one word", () -> x.word(1));
    }

    /** 16: "IllegalStateException when none is held." */
    private static void replaceWithoutAHold() {
        SegmentTrees x = new SegmentTrees();
        check.refusesState("new", x::replace);
        x.type(0, NONE, 1, NONE, false, true);
        x.insert(0);
        check.refusesState("at one that was inserted", x::replace);
        x.unique(false);
        check.refusesState("got, but not held", x::replace);
        x.unique(true);
        x.replace();
        check.refusesState("replaced before", x::replace);
        x.unique(true);
        x.delete();
        check.refusesState("deleted", x::replace);
    }

    /** 17: "The segment that is held is deleted with all below it: how many they are." */
    private static void deleteOne() {
        SegmentTrees x = fourLevels();
        for (int t = 0; t < 4; t++) {
            x.insert(t);
        }
        for (int t = 3; t >= 0; t--) {
            x.clearPath();
            x.path(t, 0, 0, 0);
            x.unique(true);
            check.same("one with none below", x.delete(), 1);
            check.same("so many are left", x.count(), t);
        }
    }

    private static void deleteAllBelow() {
        for (int held = 0; held < 4; held++) {
            SegmentTrees x = fourLevels();
            for (int t = 0; t < 4; t++) {
                x.insert(t);
                put(x, t, 1);
                x.work(0, 0);
            }
            x.path(held, 0, 1, 0);
            x.unique(true);
            check.same("from level " + (held + 1), x.delete(), 2 * (3 - held) + 1);
            check.same("so many are left", x.count(), 8 - 2 * (3 - held) - 1);
            for (int t = held + 1; t < 4; t++) {
                check.same("gone", x.segment(2 * t + 1, 0), NONE);
                check.same("gone too", x.segment(2 * t + 2, 0), NONE);
            }
            check.same("its sibling stays", x.segment(2 * held + 2, 0), held);
        }
    }

    private static void deleteSixty() {
        SegmentTrees x = fourLevels();
        for (int i = 0; i < 60; i++) {
            x.insert(i < 4 ? i : 3);
        }
        x.unique(true);
        check.same("all that can be there", x.delete(), 60);
        check.same("none is left", x.count(), 0);
        check.same("at none", x.at(), 0);
        check.same("none before", x.place(), 0);
        check.same("none behind", x.next(false), 0);
        check.same("nothing is a parent", x.insert(3), -2);
        check.same("and again", x.insert(0), 61);
    }

    /** 17: "Twins of these stay, with their words, and have no twin then." */
    private static void deleteKeepsTwins() {
        for (int gone = 0; gone < 2; gone++) {
            SegmentTrees x = twins();
            put(x, 0, 1, 5, 1);
            put(x, 1, LEAST, 5, GREATEST);
            hold(x, gone, 1, 5);
            check.same("one", x.delete(), 1);
            int left = 2 - gone;
            check.same("its type", x.segment(left, 0), left - 1);
            check.same("no twin", x.segment(left, 2), 0);
            check.same("word 0", x.segment(left, 10), LEAST);
            check.same("word 1", x.segment(left, 11), 5);
            check.same("word 2", x.segment(left, 12), GREATEST);
        }
    }

    private static void deleteBothTwins() {
        SegmentTrees x = new SegmentTrees();
        x.type(2, NONE, 1, 0, false, true);
        x.type(0, 2, 1, 0, false, true);
        x.type(1, 2, 1, 0, false, true);
        x.twins(0, 1);
        x.insert(2);
        for (int i = 0; i < 5; i++) {
            x.insert(0);
            x.insert(1);
        }
        x.unique(true);
        check.same("five pairs and what is above", x.delete(), 11);
        x.insert(2);
        x.insert(0);
        check.same("no twin is left", x.segment(13, 2), 0);
    }

    private static void deleteMakesTwinsFree() {
        SegmentTrees x = twins();
        put(x, 0, 1, 5, 1);
        put(x, 0, 2, 5, 2);
        put(x, 1, 3, 5, 3);
        hold(x, 1, 1, 5);
        x.delete();
        put(x, 1, 4, 5, 4);
        check.same("the least number is free again", x.segment(4, 2), 1);
        check.same("with new words", x.segment(1, 10), 4);
        hold(x, 0, 0, 4);
        x.delete();
        put(x, 1, 6, 5, 6);
        check.same("the next one", x.segment(5, 2), 2);
        check.same("and one is without", x.segment(4, 2), 0);
    }

    /** 17: "The position is in front of the next segment behind them .. (or behind all)." */
    private static void deleteTheLast() {
        SegmentTrees x = fourLevels();
        x.insert(0);
        x.insert(1);
        put(x, 0, 1);
        put(x, 0, 2);
        hold(x, 0, 0, 2);
        x.delete();
        x.clearPath();
        check.same("behind all", x.place(), 3);
        check.same("none is behind", x.next(false), 0);
        check.same("at none", x.at(), 0);
    }

    private static void deleteTheFirst() {
        SegmentTrees x = fourLevels();
        x.insert(0);
        x.insert(1);
        put(x, 0, 1);
        x.unique(true);
        check.same("with the one below", x.delete(), 2);
        check.same("in front of the first", x.place(), 0);
        check.same("at none", x.at(), 0);
        check.same("which is behind", x.next(false), 3);
    }

    private static void deleteTheLastBelow() {
        SegmentTrees x = fourLevels();
        for (int t = 0; t < 4; t++) {
            x.insert(t);
        }
        put(x, 0, 1);
        for (int t = 3; t > 0; t--) {
            x.clearPath();
            x.path(t, 0, 0, 0);
            x.unique(true);
            x.delete();
            x.clearPath();
            check.same("so many before", x.place(), t);
            check.same("a root is next", x.next(false), 5);
        }
    }

    private static void deleteOverAndOver() {
        SegmentTrees x = new SegmentTrees();
        x.type(0, NONE, 1, NONE, false, true);
        for (int i = 0; i < 60; i++) {
            x.insert(0);
        }
        x.unique(false);
        for (int i = 2; i <= 60; i++) {
            check.same("the next one", x.next(true), i);
            check.same("deleted", x.delete(), 1);
            check.same("one comes before", x.place(), 1);
        }
        check.same("none is behind", x.next(true), 0);
        check.refusesState("none is held", x::delete);
        check.same("one is left", x.count(), 1);
    }

    /** 17: "IllegalStateException when none is held." */
    private static void deleteWithoutAHold() {
        SegmentTrees x = new SegmentTrees();
        check.refusesState("new", x::delete);
        x.type(0, NONE, 1, NONE, false, true);
        x.insert(0);
        x.insert(0);
        check.refusesState("at one that was inserted", x::delete);
        x.unique(false);
        check.refusesState("got, but not held", x::delete);
        x.unique(true);
        x.replace();
        check.refusesState("replaced before", x::delete);
        x.unique(true);
        x.delete();
        check.refusesState("deleted before", x::delete);
        check.same("one is left", x.count(), 1);
    }
}
