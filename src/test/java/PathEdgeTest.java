/** The sentences on paths in "Terms", and of the promises 5 to 7, that name a boundary. */
public final class PathEdgeTest {
    private static final int NONE = SegmentTrees.NONE;
    private static final int LEAST = Integer.MIN_VALUE;
    private static final int GREATEST = Integer.MAX_VALUE;
    private static final Check check = new Check();

    public static void main(String[] args) {
        eachLevelCanBeStated();
        allLevelsCanBeStated();
        threeConditionsAtEachLevel();
        operationsWithTheLeastNumber();
        operationsWithTheGreatestNumber();
        operationsBesideTheWord();
        conditionsOnTheLastWord();
        conditionsOnOneWord();
        lowestStatedLevelAlone();
        levelsBetweenAreFree();
        levelsAboveMustMeet();
        anotherTypeAbove();
        nothingStatedMeetsEach();
        nothingStatedAndNothingThere();
        clearAnEmptyPath();
        clearAFullPath();
        pathByOperation0();
        pathByOperation0OverAndOver();
        pathWithAnotherType();
        pathWithAFourthCondition();
        pathOfATypeThatIsNotDeclared();
        pathOfAWordThatIsNotThere();
        pathOfAWordThatIsNotLookedAt();
        pathOfAnOperationThatIsNotThere();
        pathBeforeAnySegment();
        workBounds();
        workValues();
        workWordsBeyondTheLength();
        check.end();
    }

    /** The types 0 .. 3 one below the other, 4 .. 7 likewise; type t has t % 4 + 1 words, the first its sequence. */
    private static SegmentTrees declared() {
        SegmentTrees x = new SegmentTrees();
        for (int t = 0; t < 8; t++) {
            x.type(t, t % 4 == 0 ? NONE : t - 1, t % 4 + 1, 0, false, true);
        }
        return x;
    }

    /** The segments 1 .. 8 of the types 0 .. 7, each word ten times its type. */
    private static SegmentTrees filled() {
        SegmentTrees x = declared();
        for (int t = 0; t < 8; t++) {
            States.put(x, t, 10 * t, 10 * t, 10 * t, 10 * t);
        }
        return x;
    }

    /** "A PATH has for levels 1 .. 4 a type of that level, or nothing" */
    private static void eachLevelCanBeStated() {
        for (int t = 0; t < 8; t++) {
            SegmentTrees x = filled();
            check.isTrue("stated", x.path(t, 0, 0, 0));
            check.order("type " + t + " alone", x, t + 1);
        }
    }

    private static void allLevelsCanBeStated() {
        SegmentTrees x = filled();
        for (int t = 7; t >= 4; t--) {
            check.isTrue("level of type " + t, x.path(t, 0, 0, 0));
            check.order("the lowest one decides", x, 8);
        }
        for (int t = 0; t < 4; t++) {
            check.isFalse("each level has its type", x.path(t, 0, 0, 0));
        }
    }

    /** "and up to three CONDITIONS on words of it" */
    private static void threeConditionsAtEachLevel() {
        SegmentTrees x = filled();
        for (int i = 1; i <= 3; i++) {
            for (int t = 0; t < 4; t++) {
                check.isTrue("condition " + i + " on type " + t, x.path(t, t, 1, 10 * t));
            }
        }
        check.order("all twelve hold", x, 4);
        for (int t = 0; t < 4; t++) {
            check.isFalse("a fourth on type " + t, x.path(t, 0, 2, 10 * t));
        }
        check.order("the fourth ones are not there", x, 4);
    }

    private static SegmentTrees threeRoots(int first, int second, int third) {
        SegmentTrees x = new SegmentTrees();
        x.type(0, NONE, 1, NONE, false, true);
        States.put(x, 0, first);
        States.put(x, 0, second);
        States.put(x, 0, third);
        return x;
    }

    private static void operationsBy(String what, int number, int[] words, int[][] due) {
        for (int operation = 1; operation <= 6; operation++) {
            SegmentTrees x = threeRoots(words[0], words[1], words[2]);
            check.isTrue("taken", x.path(0, 0, operation, number));
            check.order(what + ", operation " + operation, x, due[operation - 1]);
        }
    }

    /** "an operation (1 equal, 2 not equal, 3 less, 4 at most, 5 greater, 6 at least), and a number" */
    private static void operationsWithTheLeastNumber() {
        operationsBy("least", LEAST, new int[] {LEAST, LEAST + 1, GREATEST},
                new int[][] {{1}, {2, 3}, {}, {1}, {2, 3}, {1, 2, 3}});
    }

    private static void operationsWithTheGreatestNumber() {
        operationsBy("greatest", GREATEST, new int[] {LEAST, GREATEST - 1, GREATEST},
                new int[][] {{3}, {1, 2}, {1, 2}, {1, 2, 3}, {}, {3}});
    }

    private static void operationsBesideTheWord() {
        operationsBy("beside 0", 0, new int[] {-1, 0, 1},
                new int[][] {{2}, {1, 3}, {1}, {1, 2}, {3}, {2, 3}});
        operationsBy("far from 0", 0, new int[] {LEAST, 0, GREATEST},
                new int[][] {{2}, {1, 3}, {1}, {1, 2}, {3}, {2, 3}});
        operationsBy("far from -1", -1, new int[] {LEAST, -1, GREATEST},
                new int[][] {{2}, {1, 3}, {1}, {1, 2}, {3}, {2, 3}});
    }

    /** "A condition is a word": the last one of each length too */
    private static void conditionsOnTheLastWord() {
        for (int t = 0; t < 4; t++) {
            SegmentTrees x = filled();
            States.put(x, t, 10 * t, 10 * t, 10 * t, 10 * t);
            x.work(t, -5);
            x.insert(t);
            check.isTrue("taken", x.path(t, t, 1, -5));
            check.order("by word " + t, x, 10);
        }
    }

    /** "all conditions there hold": of two that exclude one another, none does. */
    private static void conditionsOnOneWord() {
        SegmentTrees x = threeRoots(LEAST, 0, GREATEST);
        x.path(0, 0, 5, LEAST);
        check.order("the first", x, 2, 3);
        x.path(0, 0, 3, GREATEST);
        check.order("and the second", x, 2);
        x.path(0, 0, 2, 0);
        check.order("and the third", x);
    }

    /** "A segment MEETS the path, if it is of the lowest level that is stated" */
    private static void lowestStatedLevelAlone() {
        for (int t = 0; t < 4; t++) {
            SegmentTrees x = filled();
            x.path(t, 0, 0, 0);
            x.path(0, 0, 0, 0);
            check.order("not those above it or below it: " + t, x, t + 1);
        }
    }

    private static void levelsBetweenAreFree() {
        SegmentTrees x = filled();
        x.path(0, 0, 1, 0);
        x.path(3, 0, 1, 30);
        check.order("levels 1 and 4", x, 4);
        States.put(x, 1, 99, 0);
        x.path(1, 0, 1, 99);
        check.order("level 2 is not free any more", x);
    }

    /** "at each stated level the segment of that level above it (or itself) has that type, and all conditions" */
    private static void levelsAboveMustMeet() {
        for (int above = 0; above < 4; above++) {
            SegmentTrees x = filled();
            x.path(3, 0, 0, 0);
            x.path(above, 0, 2, 10 * above);
            check.order("a condition of level " + (above + 1) + " does not hold", x);
        }
    }

    private static void anotherTypeAbove() {
        for (int above = 4; above < 7; above++) {
            SegmentTrees x = filled();
            x.path(3, 0, 0, 0);
            x.path(above, 0, 0, 0);
            check.order("below no segment of type " + above, x);
        }
    }

    /** "If nothing is stated, each segment meets it." */
    private static void nothingStatedMeetsEach() {
        SegmentTrees x = filled();
        check.order("of all levels", x, 1, 2, 3, 4, 5, 6, 7, 8);
    }

    private static void nothingStatedAndNothingThere() {
        SegmentTrees x = declared();
        check.order("none", x);
        x.path(0, 0, 0, 0);
        check.order("none of type 0", x);
    }

    /** 5: "Nothing is stated any more." */
    private static void clearAnEmptyPath() {
        SegmentTrees x = new SegmentTrees();
        x.clearPath();
        x.clearPath();
        check.same("nothing is there", x.unique(false), 0);
        SegmentTrees y = filled();
        y.clearPath();
        check.same("the position stays", y.at(), 8);
        check.order("all", y, 1, 2, 3, 4, 5, 6, 7, 8);
    }

    private static void clearAFullPath() {
        SegmentTrees x = filled();
        for (int t = 0; t < 4; t++) {
            for (int i = 0; i < 3; i++) {
                x.path(t, 0, 1, 77);
            }
        }
        check.order("none", x);
        x.clearPath();
        check.order("all", x, 1, 2, 3, 4, 5, 6, 7, 8);
        for (int t = 4; t < 8; t++) {
            for (int i = 0; i < 3; i++) {
                check.isTrue("all levels are free", x.path(t, 0, 1, 10 * t));
            }
        }
        check.order("the conditions of before are gone", x, 8);
        x.clearPath();
        x.path(1, 0, 0, 0);
        check.order("also those of another type", x, 2);
    }

    /** 6: "States a level by its type (operation 0)" */
    private static void pathByOperation0() {
        SegmentTrees x = filled();
        check.isTrue("the number is not looked at", x.path(2, 0, 0, GREATEST));
        check.order("no condition", x, 3);
        check.isTrue("with a condition", x.path(2, 0, 1, 20));
        check.isTrue("the type again", x.path(2, 0, 0, LEAST));
        check.order("the condition stays", x, 3);
        check.isTrue("a second", x.path(2, 0, 2, 20));
        check.order("and both are looked at", x);
    }

    private static void pathByOperation0OverAndOver() {
        SegmentTrees x = filled();
        for (int i = 0; i < 10; i++) {
            check.isTrue("stated again", x.path(0, 0, 0, 0));
        }
        for (int i = 0; i < 3; i++) {
            check.isTrue("condition " + i, x.path(0, 0, 1, 0));
        }
        check.isTrue("operation 0 with three conditions", x.path(0, 0, 0, 0));
        check.isFalse("a fourth", x.path(0, 0, 1, 0));
        check.isTrue("operation 0 after that", x.path(0, 0, 0, 0));
    }

    /** 6: "false, and nothing is done, when the level is stated with another type" */
    private static void pathWithAnotherType() {
        for (int t = 0; t < 4; t++) {
            SegmentTrees x = filled();
            x.path(t, 0, 0, 0);
            for (int operation = 0; operation <= 6; operation++) {
                check.isFalse("type " + (t + 4), x.path(t + 4, 0, operation, 0));
            }
            check.order("type " + t + " stays", x, t + 1);
            for (int i = 0; i < 3; i++) {
                check.isTrue("with room for three", x.path(t, 0, 1, 10 * t));
            }
            check.order("type " + t + " stays still", x, t + 1);
        }
    }

    /** 6: "or has three conditions and would get one more" */
    private static void pathWithAFourthCondition() {
        SegmentTrees x = filled();
        for (int i = 0; i < 3; i++) {
            x.path(0, 0, 1, 0);
        }
        for (int operation = 1; operation <= 6; operation++) {
            check.isFalse("by " + operation, x.path(0, 0, operation, 5));
        }
        check.isFalse("of another type", x.path(4, 0, 1, 0));
        check.isFalse("another type alone", x.path(4, 0, 0, 0));
        check.order("the three stay", x, 1);
    }

    /** 6: "IllegalArgumentException when t is not declared" */
    private static void pathOfATypeThatIsNotDeclared() {
        SegmentTrees x = new SegmentTrees();
        x.type(0, NONE, 1, 0, false, true);
        for (int t : new int[] {-1, 1, 7, 8, LEAST, GREATEST}) {
            for (int operation = 0; operation <= 6; operation++) {
                int by = operation;
                check.refusesArgument("type " + t + " by " + by, () -> x.path(t, 0, by, 0));
            }
        }
        check.isTrue("nothing was stated", x.path(0, 0, 0, 0));
    }

    /** 6: "or has no such word" */
    private static void pathOfAWordThatIsNotThere() {
        SegmentTrees x = filled();
        for (int t = 0; t < 4; t++) {
            int type = t;
            for (int word : new int[] {-1, type + 1, 4, LEAST, GREATEST}) {
                for (int operation = 1; operation <= 6; operation++) {
                    int by = operation;
                    check.refusesArgument("word " + word + " of type " + t, () -> x.path(type, word, by, 0));
                }
            }
        }
        check.order("nothing was stated", x, 1, 2, 3, 4, 5, 6, 7, 8);
        for (int t = 0; t < 4; t++) {
            check.isTrue("the first word", x.path(t, 0, 1, 10 * t));
            check.isTrue("the last word", x.path(t, t, 1, 10 * t));
        }
        check.order("both are taken", x, 4);
    }

    /** 6: "(not looked at for 0)" */
    private static void pathOfAWordThatIsNotLookedAt() {
        for (int word : new int[] {-1, 1, 4, LEAST, GREATEST}) {
            SegmentTrees x = filled();
            check.isTrue("word " + word, x.path(0, word, 0, 0));
            check.order("stated", x, 1);
            check.isFalse("of another type", x.path(4, word, 0, 0));
        }
    }

    /** 6: "or the operation is not 0 .. 6" */
    private static void pathOfAnOperationThatIsNotThere() {
        SegmentTrees x = filled();
        for (int operation : new int[] {-1, 7, LEAST, GREATEST}) {
            check.refusesArgument("operation " + operation, () -> x.path(0, 0, operation, 0));
        }
        check.order("nothing was stated", x, 1, 2, 3, 4, 5, 6, 7, 8);
        check.isTrue("the least", x.path(0, 0, 0, 0));
        check.isTrue("the greatest", x.path(0, 0, 6, 0));
        check.order("both are taken", x, 1);
    }

    private static void pathBeforeAnySegment() {
        SegmentTrees x = new SegmentTrees();
        x.type(0, NONE, 1, 0, false, true);
        check.isTrue("with no segment", x.path(0, 0, 1, 5));
        x.type(1, NONE, 1, 0, false, true);
        check.isFalse("of a type declared later", x.path(1, 0, 0, 0));
        States.put(x, 0, 4);
        States.put(x, 0, 5);
        check.order("looked at when it is asked", x, 2);
    }

    /** 7: "IllegalArgumentException when i is not 0 .. 3." */
    private static void workBounds() {
        SegmentTrees x = new SegmentTrees();
        x.type(0, NONE, 4, NONE, false, true);
        for (int i : new int[] {-1, 4, LEAST, GREATEST}) {
            check.refusesArgument("work " + i, () -> x.work(i, 7));
        }
        x.insert(0);
        for (int i = 0; i < 4; i++) {
            check.same("nothing was set", x.word(i), 0);
        }
        x.work(0, 8);
        x.work(3, 9);
        x.insert(0);
        check.same("the least", x.word(0), 8);
        check.same("the greatest", x.word(3), 9);
        check.same("one between", x.word(1) + x.word(2), 0);
    }

    /** 7: "A word to work with becomes v." */
    private static void workValues() {
        SegmentTrees x = new SegmentTrees();
        x.type(0, NONE, 4, NONE, false, true);
        for (int v : new int[] {LEAST, GREATEST, 0, -1}) {
            for (int i = 0; i < 4; i++) {
                x.work(i, 5);
                x.work(i, v);
            }
            x.insert(0);
            for (int i = 0; i < 4; i++) {
                check.same("word " + i, x.word(i), v);
            }
        }
        check.same("an earlier segment has its own", x.segment(1, 10), LEAST);
    }

    private static void workWordsBeyondTheLength() {
        SegmentTrees x = declared();
        States.put(x, 0, 1, 2, 3, 4);
        States.put(x, 4, 1);
        x.insert(1);
        check.same("a word beyond an earlier length stays", x.word(1), 2);
        x.insert(2);
        x.insert(3);
        check.same("to the last one", x.word(3), 4);
    }
}
