import java.util.Arrays;

/** Promises 11 to 24: each sentence of the document that names a boundary of patches. */
public final class PatchEdgesTest {
    private static final Checks CHECKS = new Checks("PatchEdgesTest");
    private static final int LEAST = PatchBench.LEAST, UNIQUE = PatchBench.UNIQUE, RARE = PatchBench.RARE;
    private static final int[] DISTINCT = {1, 2, 3, 4, 5, 6, 7, 8, 9, 11, 12, 13, 14, 15, 16, 17};
    /** Eleven hunks with ten pairs between them: two texts of 16 lines can't have more. */
    private static final int[] MANY_OLD = {21, 1, 2, 22, 3, 4, 23, 5, 6, 24, 7, 8, 25, 9, 11, 26};
    private static final int[] MANY_NEW = {1, 31, 2, 3, 32, 4, 5, 33, 6, 7, 34, 8, 9, 35, 11, 36};

    private PatchEdgesTest() {
    }

    public static void main(String[] args) {
        hunksAtTheBeginningAndAtTheEnd();
        fromNoHunkToTheMost();
        thereCanBeTwentyFour();
        hunksGoBackAndOn();
        hunksStopAheadOfOthers();
        hunksAreShiftedOneAfterTheOther();
        theBestPlaceIsFree();
        thenTheLeastIndentThenTheLast();
        blanksAndMarksHaveNoIndent();
        aRunHasTwoLinesOrMore();
        aRunIsOfOneHunkInEachText();
        linesOfARunAreAlike();
        theLongestRunIsTakenThenTheLowest();
        blocksMoveFromEndToEnd();
        edgesAreInverted();
        aJoinPairsBeginningsThenEnds();
        aJoinPairsInHunksAlone();
        joinNeedsTheTextBetween();
        stretchesTouchIfOneEndsWhereTheOtherBegins();
        patchesWithoutHunksDependOnNothing();
        patchesMovePastAtTheEdges();
        sixteenLinesBetween();
        fromNoneToAllIsSplit();
        hunksAtTheEdgesAreSplit();
        sixteenLinesBetweenTheParts();
        linesAreReadFromTheFirstToBehindTheLast();
        pairsAndHunksAreReadToTheLast();
        patchesAreEqualOrNot();
        distancesGoFromNone();
        CHECKS.end();
    }

    private static int[] t(int... lines) {
        return lines;
    }

    private static int[] full(int line) {
        int[] lines = new int[16];
        Arrays.fill(lines, line);
        return lines;
    }

    private static void made(int way, int[] before, int[] after, String hunks, String pairs) {
        Bench b = new Bench();
        int patch = b.make(way, before, after);
        String what = " of " + b.text(0) + " to " + b.text(1) + " by " + way;
        CHECKS.due("hunks" + what, b.hunks(patch), hunks);
        CHECKS.due("pairs" + what, b.pairs(patch), pairs);
        CHECKS.due("old text" + what, b.lines(patch, false), b.text(0));
        CHECKS.due("new text" + what, b.lines(patch, true), b.text(1));
    }

    private static void hunksAtTheBeginningAndAtTheEnd() {
        CHECKS.says("Old lines without a pair are dropped, new ones without a pair are added.");
        for (int way = LEAST; way <= RARE; way++) {
            made(way, t(1, 2), t(9, 1, 2), "0 0 0 1", "1 2");
            made(way, t(1, 2), t(1, 2, 9), "2 0 2 1", "0 1");
            made(way, t(1, 2), t(2), "0 1 0 0", "-1 0");
            made(way, t(1, 2), t(1), "1 1 1 0", "0 -1");
            made(way, t(1, 2, 3), t(9, 2, 8), "0 1 0 1 | 2 1 2 1", "-1 1 -1");
            made(way, t(), t(1), "0 0 0 1", "");
            made(way, t(1), t(), "0 1 0 0", "-1");
            made(way, t(1), t(2), "0 1 0 1", "-1");
            made(way, t(), DISTINCT, "0 0 0 16", "");
            made(way, DISTINCT, t(), "0 16 0 0", "-1 -1 -1 -1 -1 -1 -1 -1 -1 -1 -1 -1 -1 -1 -1 -1");
            made(way, DISTINCT, full(21), "0 16 0 16", "-1 -1 -1 -1 -1 -1 -1 -1 -1 -1 -1 -1 -1 -1 -1 -1");
        }
    }

    private static void fromNoHunkToTheMost() {
        CHECKS.says("A hunk is a greatest stretch of both texts without pairs; hunks are counted from 0 in the order of "
                + "the texts.");
        for (int way = LEAST; way <= RARE; way++) {
            made(way, t(), t(), "", "");
            made(way, t(1), t(1), "", "0");
            made(way, DISTINCT, DISTINCT, "", "0 1 2 3 4 5 6 7 8 9 10 11 12 13 14 15");
            made(way, MANY_OLD, MANY_NEW, "0 1 0 0 | 2 0 1 1 | 3 1 3 0 | 5 0 4 1 | 6 1 6 0 | 8 0 7 1 | 9 1 9 0 | "
                    + "11 0 10 1 | 12 1 12 0 | 14 0 13 1 | 15 1 15 1", "-1 0 2 -1 3 5 -1 6 8 -1 9 11 -1 12 14 -1");
        }
    }

    private static void thereCanBeTwentyFour() {
        CHECKS.says("Patches are numbered from 0; there can be 24.");
        Bench b = new Bench();
        b.fill(0, 1);
        for (int i = 0; i < 24; i++) {
            CHECKS.due("patches ahead of number " + i, b.bench.patches(), i);
            CHECKS.due("number", b.bench.make(0, 1, LEAST), i);
        }
        CHECKS.refused("the 25th", Checks.STATE, () -> b.bench.make(0, 1, LEAST));
        CHECKS.due("patches", b.bench.patches(), 24);
        CHECKS.due("the first", b.hunks(0), "0 1 0 0");
        CHECKS.due("the last", b.hunks(23), "0 1 0 0");
        CHECKS.refused("number 24", Checks.INDEX, () -> b.bench.hunks(24));
    }

    private static void hunksGoBackAndOn() {
        CHECKS.says("by 1 back, if the line ahead of it there is the same as its last one, or by 1 on, if the line "
                + "behind it is the same as its first one, and so on");
        int[] fifteen = Arrays.copyOf(full(1), 15);
        made(LEAST, fifteen, full(1), "0 0 0 1", "1 2 3 4 5 6 7 8 9 10 11 12 13 14 15");
        made(LEAST, full(1), fifteen, "0 1 0 0", "-1 0 1 2 3 4 5 6 7 8 9 10 11 12 13 14");
        made(LEAST, t(8, 10002, 2, 5), t(8, 10002, 2, 10002, 2, 5), "2 0 2 2", "0 1 4 5");
        made(LEAST, t(1, 2), t(1, 3, 2), "1 0 1 1", "0 2");
        made(UNIQUE, t(3, 4), t(1, 3, 4, 2, 4), "0 0 0 1 | 2 0 3 2", "1 2");
        made(UNIQUE, t(1, 3, 4, 2, 4), t(3, 4), "0 1 0 0 | 3 2 2 0", "-1 0 1 -1 -1");
        made(UNIQUE, t(3, 4, 2), t(1, 3, 4, 2, 4, 2), "0 0 0 1 | 3 0 4 2", "1 2 3");
        made(UNIQUE, t(3, 4, 5), t(1, 3, 4, 2, 4, 5), "0 0 0 1 | 2 0 3 2", "1 2 5");
        CHECKS.says("A hunk that only adds, or only drops, is shifted along the text that has its lines");
        made(LEAST, t(1, 2, 9), t(1, 3, 1, 9), "1 1 1 2", "0 -1 3");
        made(LEAST, t(1, 3, 1, 9), t(1, 2, 9), "1 2 1 1", "0 -1 -1 2");
    }

    private static void hunksStopAheadOfOthers() {
        CHECKS.says("but not so far that it touches another hunk (with no pair between)");
        // Back: the place behind the blank would be the best one.
        made(LEAST, t(7, 1, 9), t(8, 0, 1, 1, 9), "0 1 0 2 | 2 0 3 1", "-1 2 4");
        made(LEAST, t(7, 1, 1, 9), t(8, 0, 1, 1, 1, 9), "0 1 0 2 | 3 0 4 1", "-1 2 3 5");
        made(LEAST, t(0, 1, 1, 9), t(1, 9), "0 1 0 0 | 2 1 1 0", "-1 0 -1 1");
        // On: by as much as there is, with another hunk behind the next pair.
        made(UNIQUE, t(9, 51, 3, 4, 52, 3, 8), t(7, 51, 1, 3, 4, 2, 4, 52, 6),
                "0 1 0 1 | 2 0 2 1 | 4 0 5 2 | 5 2 8 1", "-1 1 3 4 7 -1 -1");
        made(UNIQUE, t(9, 51, 3, 4, 2, 52, 3, 8), t(7, 51, 1, 3, 4, 2, 4, 2, 52, 6),
                "0 1 0 1 | 2 0 2 1 | 5 0 6 2 | 6 2 9 1", "-1 1 3 4 5 8 -1 -1");
    }

    private static void hunksAreShiftedOneAfterTheOther() {
        CHECKS.says("To make a patch of two texts they are compared, and then the hunks are shifted, one after the other.");
        // The first one goes back to the beginning, and so leaves room for the second one to go behind a blank.
        made(LEAST, t(0, 3, 9), t(0, 10001, 0, 3, 3, 9), "0 0 0 2 | 1 0 3 1", "2 4 5");
    }

    private static void theBestPlaceIsFree() {
        CHECKS.says("ahead of those with a line that is not blank right ahead of the hunk, in the text that has its "
                + "lines, come those with a blank one, or none");
        made(LEAST, t(1, 0, 2, 9), t(1, 0, 2, 0, 2, 9), "2 0 2 2", "0 1 4 5");
        made(LEAST, t(1, 0, 2, 0, 2, 9), t(1, 0, 2, 9), "2 2 2 0", "0 1 -1 -1 2 3");
        made(LEAST, t(1, 0, 30002, 9), t(1, 0, 30002, 0, 30002, 9), "2 0 2 2", "0 1 4 5");
        made(LEAST, t(30001, 1, 9), t(30001, 1, 30001, 1, 9), "0 0 0 2", "2 3 4");
        made(LEAST, t(1, 0, 2), t(1, 0, 1, 0, 2), "2 0 2 2", "0 1 4");
    }

    private static void thenTheLeastIndentThenTheLast() {
        CHECKS.says("of these those with the least indent of the first line of the hunk");
        made(LEAST, t(20001, 0, 10002, 0, 9), t(20001, 0, 10002, 0, 20001, 0, 10002, 0, 9), "2 0 2 4", "0 1 6 7 8");
        made(LEAST, t(8, 20002, 10002, 9), t(8, 20002, 10002, 20002, 10002, 9), "2 0 2 2", "0 1 4 5");
        made(LEAST, t(8, 30002, 20002, 9), t(8, 30002, 20002, 30002, 20002, 9), "2 0 2 2", "0 1 4 5");
        CHECKS.says("of these the last one");
        made(LEAST, t(8, 1, 1, 9), t(8, 1, 1, 1, 9), "3 0 3 1", "0 1 2 4");
        made(LEAST, t(8, 1, 1, 1, 9), t(8, 1, 1, 9), "3 1 3 0", "0 1 2 -1 3");
        made(LEAST, t(8, 30001, 30001, 9), t(8, 30001, 30001, 30001, 9), "3 0 3 1", "0 1 2 4");
        made(LEAST, full(0), Arrays.copyOf(full(0), 15), "15 1 15 0", "0 1 2 3 4 5 6 7 8 9 10 11 12 13 14 -1");
    }

    private static void blanksAndMarksHaveNoIndent() {
        CHECKS.says("a line without words is blank, has the indent 0");
        made(LEAST, t(8, 0, 0, 10001, 9), t(8, 0, 0, 10001, 0, 0, 10001, 9), "2 0 2 3", "0 1 5 6 7");
        CHECKS.says("which count as lines with the indent 0");
        made(LEAST, t(9, 10002, 50001, 8), t(9, 10002, 50001, 10002, 50001, 8), "2 0 2 2", "0 1 4 5");
        made(LEAST, t(9, 10002, 50003, 8), t(9, 10002, 50003, 10002, 50003, 8), "2 0 2 2", "0 1 4 5");
        made(LEAST, t(9, 1, 50002, 8), t(9, 1, 50002, 1, 50002, 8), "3 0 3 2", "0 1 2 5");
    }

    private static void moved(int[] before, int[] after, String want) {
        Bench b = new Bench();
        int patch = b.make(LEAST, before, after);
        CHECKS.due("moved from " + b.text(0) + " to " + b.text(1), b.moved(patch), want);
    }

    private static void aRunHasTwoLinesOrMore() {
        CHECKS.says("of all runs of 2 lines or more in which it is");
        moved(t(1, 5, 6), t(5, 6, 1), "-1 -1 -1");
        moved(t(1, 2, 5, 6, 7), t(5, 6, 7, 1, 2), "3 4 -1 -1 -1");
        moved(t(1, 2, 5, 6, 7), t(5, 6, 7, 1), "-1 -1 -1 -1 -1");
        moved(t(1, 5, 6, 7), t(5, 6, 7, 1, 2), "-1 -1 -1 -1");
        moved(t(1, 2, 3, 5, 6, 7, 8), t(5, 6, 7, 8, 1, 2, 3), "4 5 6 -1 -1 -1 -1");
        moved(t(), t(1, 2), "");
        moved(t(1, 2), t(), "-1 -1");
    }

    private static void aRunIsOfOneHunkInEachText() {
        CHECKS.says("A run is a row of dropped lines, one behind the other in the old text, of one hunk, and a row of as "
                + "many added lines, one behind the other in the new text, of one hunk");
        moved(t(1, 5, 2, 6, 7, 8), t(5, 6, 7, 8, 1, 2), "-1 -1 -1 -1 -1 -1");
        moved(t(1, 2, 5, 6, 7), t(5, 1, 6, 2, 7), "-1 -1 -1 -1 -1");
        // Lines that are paired are in no run.
        moved(t(12, 13, 12, 13, 5), t(12, 13, 5), "-1 -1 -1 -1 -1");
        moved(t(12, 13, 5), t(12, 13, 12, 13, 5), "-1 -1 -1");
        moved(t(1, 5, 6, 7), t(5, 6, 7, 1, 5), "-1 -1 -1 -1");
    }

    private static void linesOfARunAreAlike() {
        CHECKS.says("such that each has a likeness of 50 or more to the one at its place in the other row");
        moved(t(1, 23, 5, 6, 7), t(5, 6, 7, 1, 24), "3 4 -1 -1 -1");
        moved(t(1, 23, 5, 6, 7), t(5, 6, 7, 1, 245), "-1 -1 -1 -1 -1");
        moved(t(1, 2, 5, 6, 7), t(5, 6, 7, 1, 234), "3 4 -1 -1 -1");
        moved(t(1, 2, 5, 6, 7), t(5, 6, 7, 1, 2346), "-1 -1 -1 -1 -1");
        moved(t(23, 1, 5, 6, 7), t(5, 6, 7, 24, 1), "3 4 -1 -1 -1");
        moved(t(50001, 1, 5, 6, 7), t(5, 6, 7, 50001, 1), "3 4 -1 -1 -1");
        moved(t(50001, 1, 5, 6, 7), t(5, 6, 7, 50002, 1), "-1 -1 -1 -1 -1");
        moved(t(0, 1, 5, 6, 7), t(5, 6, 7, 0, 1), "3 4 -1 -1 -1");
        moved(t(1, 0, 5, 6, 7), t(5, 6, 7, 1, 2), "-1 -1 -1 -1 -1");
        CHECKS.says("and at least one is the same as that");
        moved(t(1, 2, 5, 6, 7), t(5, 6, 7, 10001, 10002), "-1 -1 -1 -1 -1");
        moved(t(1, 2, 5, 6, 7), t(5, 6, 7, 10001, 2), "3 4 -1 -1 -1");
        moved(t(1, 2, 5, 6, 7), t(5, 6, 7, 1, 10002), "3 4 -1 -1 -1");
        // The same lines right behind, or right ahead, are paired and count for no run.
        moved(t(12, 34, 5), t(13, 39, 5), "-1 -1 -1");
        moved(t(5, 12, 34), t(5, 13, 39), "-1 -1 -1");
    }

    private static void theLongestRunIsTakenThenTheLowest() {
        CHECKS.says("that with the most lines is taken");
        moved(t(1, 2, 3, 5, 6, 7, 8), t(5, 6, 7, 1, 2, 8, 1, 2, 3), "6 7 8 -1 -1 -1 -1");
        moved(t(1, 2, 3, 5, 6, 7, 8), t(5, 6, 7, 1, 2, 3, 8, 1, 2), "3 4 5 -1 -1 -1 -1");
        moved(t(1, 2, 3, 5, 6, 7, 8), t(5, 6, 7, 2, 3, 8, 1, 2, 3), "6 7 8 -1 -1 -1 -1");
        CHECKS.says("of several that whose first added line has the lowest place in the new text");
        moved(t(1, 2, 3, 5, 6, 7, 8), t(5, 6, 7, 2, 3, 8, 1, 2), "6 3 4 -1 -1 -1 -1");
        moved(t(1, 2, 3, 5, 6, 7, 8), t(5, 6, 7, 1, 2, 8, 2, 3), "3 4 7 -1 -1 -1 -1");
        moved(t(1, 1, 5, 6, 7), t(5, 6, 7, 1, 1, 1), "3 4 -1 -1 -1");
        moved(t(1, 2, 5, 6, 7, 8), t(5, 6, 7, 1, 2, 8, 1, 2), "3 4 -1 -1 -1 -1");
        CHECKS.says("of these that whose first dropped line has the lowest place in the old text");
        moved(t(1, 1, 1, 5, 6, 7, 8), t(5, 6, 7, 8, 1, 1), "4 5 5 -1 -1 -1 -1");
        moved(t(1, 1, 1, 1, 5, 6, 7, 8), t(5, 6, 7, 8, 1, 1), "4 5 5 5 -1 -1 -1 -1");
    }

    private static void blocksMoveFromEndToEnd() {
        CHECKS.says("Returns the place in the new text; NONE if it was not moved, or is not dropped.");
        moved(DISTINCT, t(9, 11, 12, 13, 14, 15, 16, 17, 1, 2, 3, 4, 5, 6, 7, 8),
                "8 9 10 11 12 13 14 15 -1 -1 -1 -1 -1 -1 -1 -1");
        moved(t(5, 6, 7, 1, 2), t(1, 2, 5, 6, 7), "-1 -1 -1 0 1");
        moved(t(5, 6, 7, 45, 13), t(12, 13, 5, 6, 7), "-1 -1 -1 -1 -1");
        moved(t(5, 6, 7, 12, 13), t(12, 13, 5, 6, 7), "-1 -1 -1 0 1");
    }

    private static void edgesAreInverted() {
        CHECKS.says("To invert a patch is to exchange its texts.");
        int[][][] texts = {{t(), t()}, {t(), DISTINCT}, {DISTINCT, t()}, {DISTINCT, DISTINCT}, {DISTINCT, full(1)},
            {MANY_OLD, MANY_NEW}, {t(1), t(1, 1)}};
        for (int[][] both : texts) {
            Bench b = new Bench();
            b.make(LEAST, both[0], both[1]);
            String what = " of " + b.text(0) + " to " + b.text(1);
            CHECKS.due("number of the inverse" + what, b.bench.invert(0), 1);
            CHECKS.due("old text of the inverse" + what, b.lines(1, false), b.text(1));
            CHECKS.due("new text of the inverse" + what, b.lines(1, true), b.text(0));
            CHECKS.due("hunks of the inverse" + what, b.bench.hunks(1), b.bench.hunks(0));
            for (int h = 0; h < b.bench.hunks(0); h++) {
                for (int part = 0; part < 4; part++) {
                    CHECKS.due("hunk " + h + what, b.bench.hunk(1, h, part), b.bench.hunk(0, h, (part + 2) % 4));
                }
            }
            CHECKS.due("twice", b.bench.areEqual(0, b.bench.invert(1)), true);
        }
    }

    private static void joined(int[] first, int[] between, int[] last, String pairs) {
        Bench b = new Bench();
        b.make(LEAST, first, between);
        b.make(LEAST, between, last);
        int patch = b.bench.join(0, 1);
        String what = b.lines(0, false) + ", " + b.lines(0, true) + ", " + b.lines(1, true);
        CHECKS.due("old text of " + what, b.lines(patch, false), b.lines(0, false));
        CHECKS.due("new text of " + what, b.lines(patch, true), b.lines(1, true));
        CHECKS.due("pairs of " + what, b.pairs(patch), pairs);
    }

    private static void aJoinPairsBeginningsThenEnds() {
        CHECKS.says("then in each hunk lines are paired that are the same, at its beginning, as long as they are, and "
                + "then, in what is left, at its end");
        joined(t(1), t(9), t(1, 1), "0");
        joined(t(1, 1), t(9), t(1), "0 -1");
        joined(t(1, 2), t(9), t(1, 2), "0 1");
        joined(t(1, 2, 3), t(9), t(1, 5, 3), "0 -1 2");
        joined(t(2, 1), t(9), t(1, 2, 1), "1 2");
        joined(t(1, 2, 1), t(9), t(1, 1), "0 -1 1");
        joined(t(1, 1), t(9), t(1, 2, 1), "0 2");
        joined(t(1, 5, 2), t(8, 5, 9), t(1, 5, 2), "0 1 2");
        joined(DISTINCT, t(), DISTINCT, "0 1 2 3 4 5 6 7 8 9 10 11 12 13 14 15");
        joined(full(1), t(), full(2), "-1 -1 -1 -1 -1 -1 -1 -1 -1 -1 -1 -1 -1 -1 -1 -1");
        joined(t(1), t(), t(1), "0");
        joined(t(), t(1), t(), "");
        joined(t(), t(), t(), "");
    }

    private static void aJoinPairsInHunksAlone() {
        CHECKS.says("and pair what was paired by both, one after the other");
        joined(t(1), t(1), t(1, 1), "1");
        joined(t(1, 1), t(1), t(1), "-1 0");
        joined(t(8, 1), t(8, 1), t(8, 1, 1), "0 1");
        joined(t(8, 1, 1), t(8, 1), t(8, 1), "0 1 -1");
        joined(t(2, 1), t(1), t(3, 1), "-1 1");
        joined(t(1, 2), t(1), t(1, 3), "0 -1");
    }

    private static void joinNeedsTheTextBetween() {
        CHECKS.says("if the old text of the second one is not the new text of the first one");
        int[][] others = {t(), t(1), t(1, 3, 4), t(3, 1), t(1, 10003), t(10001, 3), t(1, 3, 3), t(3)};
        for (int[] other : others) {
            Bench b = new Bench();
            b.make(LEAST, t(1, 2), t(1, 3));
            b.make(LEAST, other, t(1));
            CHECKS.refused("join with " + b.lines(1, false), Checks.STATE, () -> b.bench.join(0, 1));
            CHECKS.refused("depends on " + b.lines(1, false), Checks.STATE, () -> b.bench.depends(0, 1) ? 1 : 0);
            CHECKS.refused("past " + b.lines(1, false), Checks.STATE, () -> b.bench.past(0, 1, true));
            CHECKS.due("none made", b.bench.patches(), 2);
        }
        Bench b = new Bench();
        b.make(LEAST, t(1, 2), t(1, 3));
        b.make(UNIQUE, t(1, 3), t());
        CHECKS.due("join", b.bench.join(0, 1), 2);
    }

    /** A text of six lines without those from a place up to ahead of another one, or with one more line there. */
    private static int[] besides(int from, int to) {
        int[] lines = new int[6 + (from == to ? 1 : from - to)];
        int count = 0;
        for (int i = 0; i <= 6; i++) {
            if (i == from && from == to) {
                lines[count++] = 99;
            }
            if (i < 6 && (i < from || i >= to)) {
                lines[count++] = 1 + i;
            }
        }
        return lines;
    }

    private static void stretchesTouchIfOneEndsWhereTheOtherBegins() {
        CHECKS.says("if a is at most d, and c is at most b (so also if one ends where the other one begins, and if they "
                + "overlap)");
        for (int a = 0; a <= 6; a++) {
            for (int b = a; b <= 6; b++) {
                for (int c = 0; c <= 6; c++) {
                    for (int d = c; d <= 6; d++) {
                        touching(a, b, c, d);
                    }
                }
            }
        }
    }

    private static void touching(int a, int b, int c, int d) {
        Bench x = new Bench();
        x.make(LEAST, besides(a, b), t(1, 2, 3, 4, 5, 6));
        x.make(LEAST, t(1, 2, 3, 4, 5, 6), besides(c, d));
        String what = a + " to " + b + " and " + c + " to " + d;
        CHECKS.due("hunk of the first, " + what, x.bench.hunk(0, 0, 2) + 10 * x.bench.hunk(0, 0, 3), a + 10 * (b - a));
        CHECKS.due("hunk of the second, " + what, x.bench.hunk(1, 0, 0) + 10 * x.bench.hunk(1, 0, 1), c + 10 * (d - c));
        boolean doTouch = a <= d && c <= b;
        CHECKS.due(what + " touch", x.bench.depends(0, 1), doTouch);
        if (doTouch) {
            CHECKS.refused("past, " + what, Checks.STATE, () -> x.bench.past(0, 1, true));
            return;
        }
        CHECKS.due("past, " + what, x.bench.past(0, 1, true), 2);
        CHECKS.due("past, the second one, " + what, x.bench.past(0, 1, false), 3);
        CHECKS.due("the old text, " + what, x.lines(2, false), x.lines(0, false));
        CHECKS.due("the text between, " + what, x.lines(2, true), x.lines(3, false));
        CHECKS.due("the new text, " + what, x.lines(3, true), x.lines(1, true));
        CHECKS.due("back again, " + what, x.bench.areEqual(x.bench.past(2, 3, true), 0), true);
        CHECKS.due("back again, the second one, " + what, x.bench.areEqual(x.bench.past(2, 3, false), 1), true);
    }

    private static void patchesWithoutHunksDependOnNothing() {
        CHECKS.says("if some hunk of the first one, as it is in the text between them, touches some hunk of the second "
                + "one, as it is in that text");
        Bench b = new Bench();
        b.make(LEAST, t(1), t());
        b.make(LEAST, t(), t());
        b.make(LEAST, t(), t(1));
        b.make(LEAST, t(1), t(1));
        CHECKS.due("nothing on what drops all", b.bench.depends(0, 1), false);
        CHECKS.due("nothing on nothing", b.bench.depends(1, 1), false);
        CHECKS.due("what adds all on nothing", b.bench.depends(1, 2), false);
        CHECKS.due("what adds all on what drops all", b.bench.depends(0, 2), true);
        CHECKS.due("what drops all on what adds all", b.bench.depends(2, 0), true);
        CHECKS.due("nothing comes first", b.hunks(b.bench.past(0, 1, true)), "");
        CHECKS.due("it keeps the line", b.pairs(4), "0");
        CHECKS.due("what drops all comes behind it", b.bench.areEqual(b.bench.past(0, 1, false), 0), true);
        CHECKS.due("what adds all comes first", b.bench.areEqual(b.bench.past(1, 2, true), 2), true);
        CHECKS.due("nothing comes behind it", b.bench.areEqual(b.bench.past(1, 2, false), 3), true);
    }

    private static void past(int[] first, int[] between, int[] last, String lower, String upper) {
        Bench b = new Bench();
        b.make(LEAST, first, between);
        b.make(LEAST, between, last);
        b.bench.past(0, 1, true);
        b.bench.past(0, 1, false);
        String what = b.lines(0, false) + ", " + b.lines(0, true) + ", " + b.lines(1, true);
        CHECKS.due("what comes first of " + what, b.hunks(2) + ": " + b.pairs(2), lower);
        CHECKS.due("what comes behind of " + what, b.hunks(3) + ": " + b.pairs(3), upper);
    }

    private static void patchesMovePastAtTheEdges() {
        CHECKS.says("lines that neither of both drops or adds are paired in both");
        past(t(2), t(1, 2), t(1, 2, 3), "1 0 1 1: 0", "0 0 0 1: 1 2");
        past(t(2), t(2, 3), t(1, 2, 3), "0 0 0 1: 1", "2 0 2 1: 0 1");
        past(t(1, 2, 3), t(2, 3), t(2), "2 1 2 0: 0 1 -1", "0 1 0 0: -1 0");
        past(t(1, 2, 3), t(1, 2), t(2), "0 1 0 0: -1 0 1", "1 1 1 0: 0 -1");
        past(t(1, 2, 3), t(9, 2, 3), t(9, 2, 8), "2 1 2 1: 0 1 -1", "0 1 0 1: -1 1 2");
        past(t(2, 4), t(1, 2, 3, 4, 5), t(1, 2, 3, 4, 5), ": 0 1", "0 0 0 1 | 1 0 2 1 | 2 0 4 1: 1 3");
    }

    private static void sixteenLinesBetween() {
        CHECKS.says("the text between the new ones would have more than 16 lines");
        int[] without1 = Arrays.copyOfRange(DISTINCT, 1, 16);
        int[] more = Arrays.copyOf(without1, 16);
        more[15] = 21;
        Bench b = new Bench();
        b.make(LEAST, DISTINCT, without1);
        b.make(LEAST, without1, more);
        CHECKS.due("they do not depend", b.bench.depends(0, 1), false);
        CHECKS.refused("17 lines", Checks.STATE, () -> b.bench.past(0, 1, true));
        CHECKS.refused("17 lines, the second one", Checks.STATE, () -> b.bench.past(0, 1, false));
        CHECKS.due("none made", b.bench.patches(), 2);
        int[] changed = without1.clone();
        changed[14] = 21;
        b.make(LEAST, without1, changed);
        CHECKS.due("16 lines", b.bench.past(0, 2, true), 3);
        CHECKS.due("the last of them", b.bench.lineIn(3, true, 15), 21);
        CHECKS.due("16 lines, the second one", b.bench.past(0, 2, false), 4);
        CHECKS.due("its hunks", b.hunks(4), "0 1 0 0");
    }

    private static void split(int[] before, int[] after, int dropped, int added, String first, String second) {
        Bench b = new Bench();
        b.make(LEAST, before, after);
        b.bench.split(0, 0, dropped, added, true);
        b.bench.split(0, 0, dropped, added, false);
        String what = " of " + b.lines(0, false) + " to " + b.lines(0, true) + " by " + dropped + " and " + added;
        CHECKS.due("the old text" + what, b.lines(1, false), b.lines(0, false));
        CHECKS.due("the text between" + what, b.lines(1, true), b.lines(2, false));
        CHECKS.due("the new text" + what, b.lines(2, true), b.lines(0, true));
        CHECKS.due("the first part" + what, b.hunks(1), first);
        CHECKS.due("the second part" + what, b.hunks(2), second);
    }

    private static void fromNoneToAllIsSplit() {
        CHECKS.says("0 to how many lines the hunk drops: the first ones");
        split(t(1), t(), 0, 0, "", "0 1 0 0");
        split(t(1), t(), 1, 0, "0 1 0 0", "");
        split(t(1, 2), t(), 1, 0, "0 1 0 0", "0 1 0 0");
        CHECKS.says("0 to how many lines the hunk adds: the first ones");
        split(t(), t(1), 0, 0, "", "0 0 0 1");
        split(t(), t(1), 0, 1, "0 0 0 1", "");
        split(t(), t(1, 2), 0, 1, "0 0 0 1", "1 0 1 1");
        CHECKS.says("the first part is the patch from the old text that drops and adds just these, the added ones ahead "
                + "of the dropped ones that stay; the second part does all that is left");
        split(t(1, 2), t(8, 9), 0, 0, "", "0 2 0 2");
        split(t(1, 2), t(8, 9), 0, 1, "0 0 0 1", "1 2 1 1");
        split(t(1, 2), t(8, 9), 0, 2, "0 0 0 2", "2 2 2 0");
        split(t(1, 2), t(8, 9), 1, 0, "0 1 0 0", "0 1 0 2");
        split(t(1, 2), t(8, 9), 1, 1, "0 1 0 1", "1 1 1 1");
        split(t(1, 2), t(8, 9), 2, 0, "0 2 0 0", "0 0 0 2");
        split(t(1, 2), t(8, 9), 2, 2, "0 2 0 2", "");
        split(DISTINCT, full(21), 16, 16, "0 16 0 16", "");
        split(DISTINCT, full(21), 16, 0, "0 16 0 0", "0 0 0 16");
        split(DISTINCT, full(21), 1, 1, "0 1 0 1", "1 15 1 15");
        split(DISTINCT, full(21), 0, 0, "", "0 16 0 16");
    }

    private static void hunksAtTheEdgesAreSplit() {
        CHECKS.says("Lines that are kept, or wait for the second part, are paired in the first part; what the first part "
                + "has added, and lines that are kept, in the second one.");
        Bench b = new Bench();
        b.make(LEAST, MANY_OLD, MANY_NEW);
        b.bench.split(0, 10, 1, 1, true);
        b.bench.split(0, 10, 1, 1, false);
        CHECKS.due("the last hunk", b.hunks(1), "15 1 15 1");
        CHECKS.due("what waits is paired", b.pairs(1), "0 1 2 3 4 5 6 7 8 9 10 11 12 13 14 -1");
        CHECKS.due("all the others", b.hunks(2), "0 1 0 0 | 2 0 1 1 | 3 1 3 0 | 5 0 4 1 | 6 1 6 0 | 8 0 7 1 | 9 1 9 0 | "
                + "11 0 10 1 | 12 1 12 0 | 14 0 13 1");
        CHECKS.due("what was added is paired", b.bench.pairIn(2, 15), 15);
        b.bench.split(0, 0, 1, 0, true);
        b.bench.split(0, 0, 1, 0, false);
        CHECKS.due("the first hunk", b.hunks(3), "0 1 0 0");
        CHECKS.due("all the others", b.hunks(4), "1 0 1 1 | 2 1 3 0 | 4 0 4 1 | 5 1 6 0 | 7 0 7 1 | 8 1 9 0 | 10 0 10 1 "
                + "| 11 1 12 0 | 13 0 13 1 | 14 1 15 1");
        CHECKS.refused("the hunk behind the last", Checks.INDEX, () -> b.bench.split(0, 11, 0, 0, true));
        CHECKS.refused("two dropped", Checks.ARGUMENT, () -> b.bench.split(0, 0, 2, 0, true));
        CHECKS.refused("one added", Checks.ARGUMENT, () -> b.bench.split(0, 0, 0, 1, true));
    }

    private static void sixteenLinesBetweenTheParts() {
        CHECKS.says("if the text between the parts would have more than 16 lines");
        Bench b = new Bench();
        b.make(LEAST, DISTINCT, full(21));
        CHECKS.refused("17 lines", Checks.STATE, () -> b.bench.split(0, 0, 0, 1, true));
        CHECKS.refused("17 lines, the second part", Checks.STATE, () -> b.bench.split(0, 0, 15, 16, false));
        CHECKS.refused("32 lines", Checks.STATE, () -> b.bench.split(0, 0, 0, 16, true));
        CHECKS.due("none made", b.bench.patches(), 1);
        CHECKS.due("16 lines", b.bench.split(0, 0, 15, 15, true), 1);
        CHECKS.due("they are there", b.lines(1, true), "21 21 21 21 21 21 21 21 21 21 21 21 21 21 21 17");
        CHECKS.due("15 lines", b.bench.split(0, 0, 2, 1, false), 2);
        Bench c = new Bench();
        c.make(LEAST, Arrays.copyOf(DISTINCT, 15), Arrays.copyOf(full(21), 15));
        CHECKS.due("16 lines of 15", c.bench.split(0, 0, 0, 1, true), 1);
        CHECKS.refused("17 lines of 15", Checks.STATE, () -> c.bench.split(0, 0, 0, 2, true));
    }

    private static void linesAreReadFromTheFirstToBehindTheLast() {
        CHECKS.says("Returns the line; NONE behind the last one.");
        Bench b = new Bench();
        b.make(LEAST, DISTINCT, t());
        b.bench.invert(0);
        for (int patch = 0; patch <= 1; patch++) {
            int asked = patch;
            boolean isFull = patch == 1;
            CHECKS.due("the first line", b.bench.lineIn(patch, isFull, 0), 1);
            CHECKS.due("the last line", b.bench.lineIn(patch, isFull, 15), 17);
            CHECKS.due("behind it", b.bench.lineIn(patch, isFull, 16), PatchBench.NONE);
            CHECKS.due("far behind it", b.bench.lineIn(patch, isFull, Integer.MAX_VALUE), PatchBench.NONE);
            CHECKS.due("in the empty text", b.bench.lineIn(patch, !isFull, 0), PatchBench.NONE);
            CHECKS.refused("ahead", Checks.INDEX, () -> b.bench.lineIn(asked, isFull, -1));
            CHECKS.refused("ahead in the empty text", Checks.INDEX, () -> b.bench.lineIn(asked, !isFull, -1));
            CHECKS.refused("far ahead", Checks.INDEX, () -> b.bench.lineIn(asked, isFull, Integer.MIN_VALUE));
        }
    }

    private static void pairsAndHunksAreReadToTheLast() {
        CHECKS.says("Returns the place in the new text; NONE if it is dropped.");
        Bench b = new Bench();
        b.make(LEAST, MANY_OLD, MANY_NEW);
        b.make(LEAST, t(), MANY_NEW);
        CHECKS.due("the first old line", b.bench.pairIn(0, 0), PatchBench.NONE);
        CHECKS.due("the last pair", b.bench.pairIn(0, 14), 14);
        CHECKS.due("the last old line", b.bench.pairIn(0, 15), PatchBench.NONE);
        CHECKS.refused("behind it", Checks.INDEX, () -> b.bench.pairIn(0, 16));
        CHECKS.refused("of an empty text", Checks.INDEX, () -> b.bench.pairIn(1, 0));
        CHECKS.refused("moved behind the last", Checks.INDEX, () -> b.bench.movedTo(0, 16));
        CHECKS.refused("moved of an empty text", Checks.INDEX, () -> b.bench.movedTo(1, 0));
        CHECKS.due("moved, the last old line", b.bench.movedTo(0, 15), PatchBench.NONE);
        CHECKS.says("0 where it begins in the old text, 1 how many lines it drops, 2 where it begins in the new text, 3 "
                + "how many lines it adds");
        CHECKS.due("hunks", b.bench.hunks(0), 11);
        CHECKS.due("the first", b.bench.hunk(0, 0, 0) + 10 * b.bench.hunk(0, 0, 1), 10);
        CHECKS.due("the last in the old text", b.bench.hunk(0, 10, 0) + 100 * b.bench.hunk(0, 10, 1), 115);
        CHECKS.due("the last in the new text", b.bench.hunk(0, 10, 2) + 100 * b.bench.hunk(0, 10, 3), 115);
        CHECKS.refused("behind it", Checks.INDEX, () -> b.bench.hunk(0, 11, 0));
        CHECKS.refused("behind the only one", Checks.INDEX, () -> b.bench.hunk(1, 1, 0));
        CHECKS.refused("what is -1", Checks.ARGUMENT, () -> b.bench.hunk(0, 10, -1));
        CHECKS.refused("what is 4", Checks.ARGUMENT, () -> b.bench.hunk(0, 10, 4));
    }

    private static void patchesAreEqualOrNot() {
        CHECKS.says("Two patches are equal if they have the same old texts, new texts, and pairs.");
        int[][][] texts = {{t(), t()}, {t(1), t()}, {t(), t(1)}, {t(1), t(1)}, {t(1), t(10001)}, {t(1, 1), t(1)},
            {t(1), t(1, 1)}, {DISTINCT, DISTINCT}, {DISTINCT, full(1)}, {MANY_OLD, MANY_NEW}, {MANY_NEW, MANY_OLD}};
        Bench b = new Bench();
        for (int[][] both : texts) {
            b.make(LEAST, both[0], both[1]);
        }
        for (int patch = 0; patch < texts.length; patch++) {
            for (int other = 0; other < texts.length; other++) {
                CHECKS.due("patch " + patch + " and " + other, b.bench.areEqual(patch, other), patch == other);
            }
        }
        // The same texts, but the line is paired with the other one.
        int cut = b.make(LEAST, t(1, 1), t());
        int join = b.bench.join(cut, b.make(LEAST, t(), t(1)));
        CHECKS.due("hunks of one", b.hunks(5), "0 1 0 0");
        CHECKS.due("hunks of the other one", b.hunks(join), "1 1 1 0");
        CHECKS.due("other pairs", b.bench.areEqual(5, join), false);
        CHECKS.due("made again by RARE", b.bench.areEqual(5, b.make(RARE, t(1, 1), t(1))), true);
        CHECKS.due("made again by LEAST", b.bench.areEqual(5, b.make(LEAST, t(1, 1), t(1))), true);
    }

    private static void distancesGoFromNone() {
        CHECKS.says("The distance of two patches is how many lines are not paired if the rows of their changes are "
                + "compared by LEAST, in both rows together.");
        Bench b = new Bench();
        b.make(LEAST, t(), t());
        b.make(LEAST, DISTINCT, DISTINCT);
        b.make(LEAST, t(1), t());
        b.make(LEAST, t(), t(1));
        b.make(LEAST, MANY_OLD, MANY_NEW);
        b.make(LEAST, full(0), full(39999));
        b.make(LEAST, full(39999), full(0));
        CHECKS.due("both without hunks", b.bench.distance(0, 1), 0);
        CHECKS.due("one without hunks", b.bench.distance(0, 2), 2);
        CHECKS.due("dropped and added", b.bench.distance(2, 3), 2);
        CHECKS.due("the other way round", b.bench.distance(3, 2), 2);
        CHECKS.due("all hunks", b.bench.distance(4, 0), 23);
        CHECKS.due("all hunks with themselves", b.bench.distance(4, 4), 0);
        CHECKS.due("33 with none", b.bench.distance(5, 0), 33);
        CHECKS.due("33 with themselves", b.bench.distance(5, 5), 0);
        CHECKS.due("33 with 33", b.bench.distance(5, 6), 64);
        CHECKS.due("11 hunks with one", b.bench.distance(4, 2), 23);
    }
}
