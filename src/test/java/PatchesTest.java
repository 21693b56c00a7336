/** Promises 11 to 24: patches. */
public final class PatchesTest {
    private static final Checks CHECKS = new Checks("PatchesTest");
    private static final int LEAST = PatchBench.LEAST, UNIQUE = PatchBench.UNIQUE, RARE = PatchBench.RARE;

    private PatchesTest() {
    }

    public static void main(String[] args) {
        aPatchHasTextsPairsAndHunks();
        hunksAreShiftedToTheBestPlace();
        hunksAreNotShiftedAgainstOthers();
        thereAreTwentyFourPatches();
        aPatchIsInverted();
        patchesAreJoined();
        touchingHunksDepend();
        patchesMovePastEachOther();
        pastRefusesWhatCantBe();
        aHunkIsSplit();
        splitRefusesWhatCantBe();
        linesPairsAndHunksAreRead();
        movedLinesAreFound();
        theBestRunIsTaken();
        equalPatches();
        distances();
        CHECKS.end();
    }

    private static int[] t(int... lines) {
        return lines;
    }

    private static void made(int way, int[] before, int[] after, String hunks, String pairs) {
        Bench b = new Bench();
        int patch = b.make(way, before, after);
        String what = " of " + b.text(0) + " to " + b.text(1) + " by " + way;
        CHECKS.due("hunks" + what, b.hunks(patch), hunks);
        CHECKS.due("pairs" + what, b.pairs(patch), pairs);
    }

    private static void aPatchHasTextsPairsAndHunks() {
        Bench b = new Bench();
        CHECKS.due("the first number", b.make(LEAST, t(1, 2, 3, 4), t(1, 5, 3, 6, 4)), 0);
        CHECKS.due("the old text", b.lines(0, false), "1 2 3 4");
        CHECKS.due("the new text", b.lines(0, true), "1 5 3 6 4");
        CHECKS.due("the pairs", b.pairs(0), "0 -1 2 4");
        CHECKS.due("the hunks", b.hunks(0), "1 1 1 1 | 3 0 3 1");
        CHECKS.due("the second number", b.make(RARE, t(), t(7, 8)), 1);
        CHECKS.due("one hunk that adds all", b.hunks(1), "0 0 0 2");
        CHECKS.due("no hunks", b.hunks(b.make(UNIQUE, t(1, 2), t(1, 2))), "");
        CHECKS.due("no lines", b.hunks(b.make(UNIQUE, t(), t())), "");
        CHECKS.due("the first is as it was", b.lines(0, true), "1 5 3 6 4");
        CHECKS.due("patches", b.bench.patches(), 4);
    }

    private static void hunksAreShiftedToTheBestPlace() {
        made(LEAST, t(1, 0, 12, 0, 3), t(1, 0, 12, 0, 12, 0, 3), "4 0 4 2", "0 1 2 3 6");
        made(LEAST, t(1, 10002, 3), t(1, 10002, 1, 10002, 3), "0 0 0 2", "2 3 4");
        made(LEAST, t(9, 1, 10002, 3), t(9, 1, 10002, 1, 10002, 3), "3 0 3 2", "0 1 2 5");
        made(LEAST, t(9, 10001, 2, 8), t(9, 10001, 2, 10001, 2, 8), "2 0 2 2", "0 1 4 5");
        made(LEAST, t(9, 10001, 2, 10001, 2, 8), t(9, 10001, 2, 8), "2 2 2 0", "0 1 -1 -1 2 3");
        made(LEAST, t(1, 1, 2), t(1, 2), "0 1 0 0", "-1 0 1");
        made(UNIQUE, t(3, 4), t(1, 3, 4, 2, 4), "0 0 0 1 | 2 0 3 2", "1 2");
        made(LEAST, t(9, 50001, 10002, 8), t(9, 50001, 10002, 50001, 10002, 8), "3 0 3 2", "0 1 2 5");
        made(LEAST, t(9, 50001, 2, 8), t(9, 50001, 2, 50001, 2, 8), "3 0 3 2", "0 1 2 5");
        made(LEAST, t(8, 20001, 20001, 20001), t(8, 20001, 20001, 20001, 20001), "4 0 4 1", "0 1 2 3");
        made(LEAST, t(8, 0, 0, 0), t(8, 0, 0, 0, 0), "4 0 4 1", "0 1 2 3");
        // A hunk that drops and adds stays where it is.
        made(LEAST, t(0, 1, 0, 1, 2), t(0, 1, 3), "2 3 2 1", "0 1 -1 -1 -1");
        Bench b = new Bench();
        b.fill(0, 3, 4);
        b.fill(1, 1, 3, 4, 2, 4);
        CHECKS.due("compared, it is not shifted", b.compared(0, 1, UNIQUE), "1 4");
        b.make(LEAST, t(9, 10001, 2, 8), t(9, 10001, 2, 10001, 2, 8));
        b.bench.invert(0);
        CHECKS.due("the pairs of the new lines are shifted too", b.pairs(1), "0 1 -1 -1 2 3");
    }

    private static void hunksAreNotShiftedAgainstOthers() {
        made(LEAST, t(7, 1, 9), t(8, 0, 1, 1, 9), "0 1 0 2 | 2 0 3 1", "-1 2 4");
        made(LEAST, t(0, 1, 9), t(0, 1, 1, 9), "1 0 1 1", "0 2 3");
        made(LEAST, t(7, 0, 2, 9), t(8, 0, 2, 0, 2, 9), "0 1 0 1 | 2 0 2 2", "-1 1 4 5");
    }

    private static void thereAreTwentyFourPatches() {
        Bench b = new Bench();
        b.fill(0, 1);
        for (int i = 0; i < 24; i++) {
            CHECKS.due("number", b.bench.make(0, 1, LEAST), i);
        }
        PatchBench x = b.bench;
        x.setBase(0);
        x.push(0);
        CHECKS.refused("make", Checks.STATE, () -> x.make(0, 1, LEAST));
        CHECKS.refused("make of no way", Checks.ARGUMENT, () -> x.make(0, 1, 3));
        CHECKS.refused("make way below", Checks.ARGUMENT, () -> x.make(0, 1, -1));
        CHECKS.refused("make of no text", Checks.INDEX, () -> x.make(4, 1, 3));
        CHECKS.refused("make to no text", Checks.INDEX, () -> x.make(0, -1, 3));
        CHECKS.refused("invert", Checks.STATE, () -> x.invert(0));
        CHECKS.refused("split", Checks.STATE, () -> x.split(0, 0, 1, 0, true));
        CHECKS.refused("split out of range", Checks.ARGUMENT, () -> x.split(0, 0, 2, 0, true));
        CHECKS.refused("take", Checks.STATE, () -> x.take(0));
        CHECKS.refused("take none", Checks.INDEX, () -> x.take(1));
        CHECKS.due("patches", x.patches(), 24);
        Bench c = new Bench();
        c.fill(0, 1);
        c.bench.make(0, 0, LEAST);
        for (int i = 1; i < 24; i++) {
            c.bench.join(0, 0);
        }
        CHECKS.refused("join", Checks.STATE, () -> c.bench.join(0, 0));
        CHECKS.refused("past", Checks.STATE, () -> c.bench.past(0, 0, true));
        CHECKS.due("depends makes none", c.bench.depends(0, 0), false);
        CHECKS.due("full", c.bench.patches(), 24);
    }

    private static void aPatchIsInverted() {
        Bench b = new Bench();
        b.make(LEAST, t(1, 2, 3, 4), t(1, 5, 3, 6, 4));
        CHECKS.due("its number", b.bench.invert(0), 1);
        CHECKS.due("its old text", b.lines(1, false), "1 5 3 6 4");
        CHECKS.due("its new text", b.lines(1, true), "1 2 3 4");
        CHECKS.due("its pairs", b.pairs(1), "0 -1 2 -1 3");
        CHECKS.due("its hunks", b.hunks(1), "1 1 1 1 | 3 1 3 0");
        b.bench.invert(1);
        CHECKS.due("twice", b.bench.areEqual(0, 2), true);
        CHECKS.refused("below", Checks.INDEX, () -> b.bench.invert(-1));
        CHECKS.refused("above", Checks.INDEX, () -> b.bench.invert(3));
    }

    private static void joined(int[] first, int[] between, int[] last, String pairs) {
        Bench b = new Bench();
        b.make(LEAST, first, between);
        b.make(LEAST, between, last);
        int patch = b.bench.join(0, 1);
        CHECKS.due("number", patch, 2);
        String texts = b.lines(0, false) + ", " + b.lines(0, true) + ", " + b.lines(1, true);
        CHECKS.due("old text of " + texts, b.lines(patch, false), b.lines(0, false));
        CHECKS.due("new text of " + texts, b.lines(patch, true), b.lines(1, true));
        CHECKS.due("pairs of " + texts, b.pairs(patch), pairs);
    }

    private static void patchesAreJoined() {
        joined(t(1, 2, 3), t(1, 4, 3), t(5, 1, 4), "1 -1 -1");
        joined(t(1, 2, 3), t(9), t(1, 5, 3), "0 -1 2");
        joined(t(1, 1), t(9), t(1), "0 -1");
        joined(t(1, 2, 1), t(9), t(1), "0 -1 -1");
        joined(t(4, 1), t(9), t(1), "-1 0");
        joined(t(1, 2, 4, 2), t(1, 9), t(1, 2), "0 1 -1 -1");
        joined(t(3, 1, 4), t(9), t(5, 1, 6), "-1 -1 -1");
        joined(t(), t(1), t(), "");
        joined(t(1, 2, 3), t(9), t(1, 2, 5), "0 1 -1");
        joined(t(3, 1, 2), t(9), t(5, 1, 2), "-1 1 2");
        Bench c = new Bench();
        c.make(LEAST, t(1, 2, 3, 4), t(1, 9, 4));
        c.make(LEAST, t(1, 9, 4), t(1, 2, 7, 4));
        c.bench.join(0, 1);
        CHECKS.due("the same joined again", c.bench.areEqual(c.bench.join(0, 1), 2), true);
        Bench b = new Bench();
        b.make(LEAST, t(1), t(2));
        b.make(LEAST, t(2), t(3));
        CHECKS.refused("the wrong order", Checks.STATE, () -> b.bench.join(1, 0));
        CHECKS.refused("first below", Checks.INDEX, () -> b.bench.join(-1, 0));
        CHECKS.refused("first above", Checks.INDEX, () -> b.bench.join(2, 0));
        CHECKS.refused("second below", Checks.INDEX, () -> b.bench.join(0, -1));
        CHECKS.refused("second above", Checks.INDEX, () -> b.bench.join(0, 2));
        CHECKS.due("none made", b.bench.patches(), 2);
    }

    private static void depending(int[] before, int[] between, int[] after, boolean want) {
        Bench b = new Bench();
        b.make(LEAST, before, between);
        b.make(LEAST, between, after);
        String texts = b.lines(0, false) + ", " + b.lines(0, true) + ", " + b.lines(1, true);
        CHECKS.due("depends: " + texts, b.bench.depends(0, 1), want);
        if (want) {
            CHECKS.refused("past: " + texts, Checks.STATE, () -> b.bench.past(0, 1, true));
        } else {
            CHECKS.due("past: " + texts, b.bench.past(0, 1, true), 2);
        }
    }

    private static void touchingHunksDepend() {
        int[] old = t(1, 2, 3, 4, 5);
        int[] between = t(1, 9, 3, 4, 5);
        depending(old, between, t(1, 8, 3, 4, 5), true);
        depending(old, between, t(1, 9, 4, 5), true);
        depending(old, between, t(9, 3, 4, 5), true);
        depending(old, between, t(1, 9, 3, 5), false);
        depending(old, between, t(1, 9, 8, 3, 4, 5), true);
        depending(old, between, t(1, 8, 9, 3, 4, 5), true);
        depending(old, between, t(8, 1, 9, 3, 4, 5), false);
        depending(old, between, t(1, 9, 3, 8, 4, 5), false);
        depending(old, between, between, false);
        depending(old, old, t(5), false);
        depending(t(1, 2, 3), t(1, 3), t(1, 7, 3), true);
        depending(t(1, 2, 3), t(1, 3), t(1), true);
        depending(t(1, 2, 3, 4), t(1, 3, 4), t(1, 3), false);
        Bench b = new Bench();
        b.make(LEAST, t(1), t(2));
        CHECKS.refused("not one behind the other", Checks.STATE, () -> b.bench.depends(0, 0) ? 1 : 0);
        CHECKS.refused("first", Checks.INDEX, () -> b.bench.depends(1, 0) ? 1 : 0);
        CHECKS.refused("second", Checks.INDEX, () -> b.bench.depends(0, -1) ? 1 : 0);
    }

    private static void patchesMovePastEachOther() {
        Bench b = new Bench();
        b.make(LEAST, t(1, 2, 3, 4, 5), t(1, 9, 3, 4, 5));
        b.make(LEAST, t(1, 9, 3, 4, 5), t(1, 9, 3, 5));
        CHECKS.due("the one that comes first", b.bench.past(0, 1, true), 2);
        CHECKS.due("its old text", b.lines(2, false), "1 2 3 4 5");
        CHECKS.due("its new text", b.lines(2, true), "1 2 3 5");
        CHECKS.due("its pairs", b.pairs(2), "0 1 2 -1 3");
        CHECKS.due("the one behind it", b.bench.past(0, 1, false), 3);
        CHECKS.due("its old text", b.lines(3, false), "1 2 3 5");
        CHECKS.due("its new text", b.lines(3, true), "1 9 3 5");
        CHECKS.due("its pairs", b.pairs(3), "0 -1 2 3");
        CHECKS.due("back again, first", b.bench.areEqual(b.bench.past(2, 3, true), 0), true);
        CHECKS.due("back again, second", b.bench.areEqual(b.bench.past(2, 3, false), 1), true);
        // Hunks on both sides of one: what is dropped and added ahead moves those behind.
        Bench c = new Bench();
        c.make(LEAST, t(1, 2, 3, 4, 5, 6, 7), t(1, 2, 3, 8, 8, 8, 5, 6, 7));
        c.make(LEAST, t(1, 2, 3, 8, 8, 8, 5, 6, 7), t(9, 9, 2, 3, 8, 8, 8, 5, 6));
        c.bench.past(0, 1, true);
        c.bench.past(0, 1, false);
        CHECKS.due("hunks of the first", c.hunks(2), "0 1 0 2 | 6 1 7 0");
        CHECKS.due("text between", c.lines(2, true), "9 9 2 3 4 5 6");
        CHECKS.due("hunks of the second", c.hunks(3), "4 1 4 3");
        CHECKS.due("text at the end", c.lines(3, true), "9 9 2 3 8 8 8 5 6");
    }

    private static void pastRefusesWhatCantBe() {
        Bench b = new Bench();
        int[] long16 = t(1, 2, 3, 4, 5, 6, 7, 8, 9, 11, 12, 13, 14, 15, 16, 17);
        int[] short15 = t(2, 3, 4, 5, 6, 7, 8, 9, 11, 12, 13, 14, 15, 16, 17);
        int[] other16 = t(2, 3, 4, 5, 6, 7, 8, 9, 11, 12, 13, 14, 15, 16, 17, 18);
        b.make(LEAST, long16, short15);
        b.make(LEAST, short15, other16);
        CHECKS.due("they do not depend", b.bench.depends(0, 1), false);
        CHECKS.refused("17 lines between", Checks.STATE, () -> b.bench.past(0, 1, true));
        CHECKS.refused("17 lines between, the other one", Checks.STATE, () -> b.bench.past(0, 1, false));
        CHECKS.refused("not one behind the other", Checks.STATE, () -> b.bench.past(1, 0, true));
        CHECKS.refused("first", Checks.INDEX, () -> b.bench.past(2, 0, true));
        CHECKS.refused("second", Checks.INDEX, () -> b.bench.past(0, 2, true));
        CHECKS.refused("below", Checks.INDEX, () -> b.bench.past(0, -1, true));
        CHECKS.due("none made", b.bench.patches(), 2);
        // 16 lines between are not too many.
        Bench c = new Bench();
        c.make(LEAST, short15, t(3, 4, 5, 6, 7, 8, 9, 11, 12, 13, 14, 15, 16, 17));
        c.make(LEAST, t(3, 4, 5, 6, 7, 8, 9, 11, 12, 13, 14, 15, 16, 17),
                t(3, 4, 5, 6, 7, 8, 9, 11, 12, 13, 14, 15, 16, 17, 18));
        CHECKS.due("16 lines between", c.bench.past(0, 1, true), 2);
        CHECKS.due("the last of them", c.bench.lineIn(2, true, 15), 18);
    }

    private static void aHunkIsSplit() {
        Bench b = new Bench();
        b.make(LEAST, t(1, 2, 3, 4), t(1, 8, 9, 7, 4));
        CHECKS.due("the first part", b.bench.split(0, 0, 1, 2, true), 1);
        CHECKS.due("its old text", b.lines(1, false), "1 2 3 4");
        CHECKS.due("its new text", b.lines(1, true), "1 8 9 3 4");
        CHECKS.due("its pairs", b.pairs(1), "0 -1 3 4");
        CHECKS.due("the second part", b.bench.split(0, 0, 1, 2, false), 2);
        CHECKS.due("its old text", b.lines(2, false), "1 8 9 3 4");
        CHECKS.due("its new text", b.lines(2, true), "1 8 9 7 4");
        CHECKS.due("its pairs", b.pairs(2), "0 1 2 -1 4");
        CHECKS.due("joined again", b.bench.areEqual(b.bench.join(1, 2), 0), true);
        CHECKS.due("nothing first", b.hunks(b.bench.split(0, 0, 0, 0, true)), "");
        CHECKS.due("all behind", b.bench.areEqual(b.bench.split(0, 0, 0, 0, false), 0), true);
        CHECKS.due("all first", b.bench.areEqual(b.bench.split(0, 0, 2, 3, true), 0), true);
        CHECKS.due("nothing behind", b.hunks(b.bench.split(0, 0, 2, 3, false)), "");
        // Other hunks wait for the second part.
        Bench c = new Bench();
        c.make(LEAST, t(1, 2, 3, 4, 5), t(1, 9, 3, 8, 5));
        c.bench.split(0, 1, 0, 1, true);
        c.bench.split(0, 1, 0, 1, false);
        CHECKS.due("text between", c.lines(1, true), "1 2 3 8 4 5");
        CHECKS.due("pairs of the first part", c.pairs(1), "0 1 2 4 5");
        CHECKS.due("hunks of the first part", c.hunks(1), "3 0 3 1");
        CHECKS.due("pairs of the second part", c.pairs(2), "0 -1 2 3 -1 4");
        CHECKS.due("hunks of the second part", c.hunks(2), "1 1 1 1 | 4 1 4 0");
    }

    private static void splitRefusesWhatCantBe() {
        Bench b = new Bench();
        b.make(LEAST, t(1, 2, 3), t(1, 9, 8, 3));
        PatchBench x = b.bench;
        CHECKS.refused("patch below", Checks.INDEX, () -> x.split(-1, 0, 9, 0, true));
        CHECKS.refused("patch above", Checks.INDEX, () -> x.split(1, 0, 9, 0, true));
        CHECKS.refused("hunk below", Checks.INDEX, () -> x.split(0, -1, 9, 0, true));
        CHECKS.refused("hunk above", Checks.INDEX, () -> x.split(0, 1, 9, 0, true));
        CHECKS.refused("dropped below", Checks.ARGUMENT, () -> x.split(0, 0, -1, 0, true));
        CHECKS.refused("dropped above", Checks.ARGUMENT, () -> x.split(0, 0, 2, 0, true));
        CHECKS.refused("added below", Checks.ARGUMENT, () -> x.split(0, 0, 0, -1, true));
        CHECKS.refused("added above", Checks.ARGUMENT, () -> x.split(0, 0, 0, 3, true));
        Bench c = new Bench();
        c.make(LEAST, t(1, 2, 3, 4, 5, 6, 7, 8, 9, 11, 12, 13, 14, 15, 16, 17),
                t(1, 2, 3, 4, 5, 6, 7, 8, 9, 11, 12, 13, 14, 15, 16, 18));
        CHECKS.refused("17 lines between", Checks.STATE, () -> c.bench.split(0, 0, 0, 1, true));
        CHECKS.refused("17 lines between, second part", Checks.STATE, () -> c.bench.split(0, 0, 0, 1, false));
        CHECKS.refused("out of range first", Checks.ARGUMENT, () -> c.bench.split(0, 0, 0, 2, true));
        CHECKS.due("16 lines between", c.bench.split(0, 0, 1, 1, true), 1);
    }

    private static void linesPairsAndHunksAreRead() {
        Bench b = new Bench();
        b.make(LEAST, t(1, 2, 3), t(1, 9, 8, 3));
        PatchBench x = b.bench;
        CHECKS.due("an old line", x.lineIn(0, false, 1), 2);
        CHECKS.due("a new line", x.lineIn(0, true, 1), 9);
        CHECKS.due("behind the old text", x.lineIn(0, false, 3), PatchBench.NONE);
        CHECKS.due("behind the new text", x.lineIn(0, true, 4), PatchBench.NONE);
        CHECKS.due("far behind", x.lineIn(0, true, Integer.MAX_VALUE), PatchBench.NONE);
        CHECKS.refused("ahead", Checks.INDEX, () -> x.lineIn(0, true, -1));
        CHECKS.refused("lineIn of none", Checks.INDEX, () -> x.lineIn(1, true, 0));
        CHECKS.refused("lineIn below", Checks.INDEX, () -> x.lineIn(-1, true, 0));
        CHECKS.due("a pair", x.pairIn(0, 2), 3);
        CHECKS.due("dropped", x.pairIn(0, 1), PatchBench.NONE);
        CHECKS.refused("pairIn behind", Checks.INDEX, () -> x.pairIn(0, 3));
        CHECKS.refused("pairIn below", Checks.INDEX, () -> x.pairIn(0, -1));
        CHECKS.refused("pairIn of none", Checks.INDEX, () -> x.pairIn(1, 0));
        CHECKS.due("hunks", x.hunks(0), 1);
        CHECKS.refused("hunks of none", Checks.INDEX, () -> x.hunks(1));
        CHECKS.refused("hunks below", Checks.INDEX, () -> x.hunks(-1));
        CHECKS.refused("hunk of none", Checks.INDEX, () -> x.hunk(1, 0, 4));
        CHECKS.refused("hunk below", Checks.INDEX, () -> x.hunk(0, -1, 4));
        CHECKS.refused("hunk above", Checks.INDEX, () -> x.hunk(0, 1, 4));
        CHECKS.refused("what below", Checks.ARGUMENT, () -> x.hunk(0, 0, -1));
        CHECKS.refused("what above", Checks.ARGUMENT, () -> x.hunk(0, 0, 4));
        CHECKS.due("begins", x.hunk(0, 0, 0), 1);
        CHECKS.due("drops", x.hunk(0, 0, 1), 1);
        CHECKS.due("begins in the new text", x.hunk(0, 0, 2), 1);
        CHECKS.due("adds", x.hunk(0, 0, 3), 2);
    }

    private static void moved(int[] before, int[] after, String want) {
        Bench b = new Bench();
        int patch = b.make(LEAST, before, after);
        CHECKS.due("moved from " + b.text(0) + " to " + b.text(1), b.moved(patch), want);
    }

    private static void movedLinesAreFound() {
        moved(t(12, 13, 5, 6), t(5, 6, 12, 13), "2 3 -1 -1");
        moved(t(12, 5, 6), t(5, 6, 12), "-1 -1 -1");
        moved(t(12, 34, 5, 6), t(5, 6, 12, 39), "2 3 -1 -1");
        moved(t(12, 34, 5, 6), t(5, 6, 13, 39), "-1 -1 -1 -1");
        moved(t(12, 345, 5, 6), t(5, 6, 12, 367), "-1 -1 -1 -1");
        moved(t(12, 13, 5, 6), t(5, 12, 6, 13), "-1 -1 -1 -1");
        moved(t(12, 5, 13, 6, 7), t(5, 6, 7, 12, 13), "-1 -1 -1 -1 -1");
        moved(t(12, 10013, 5, 6), t(5, 6, 20012, 10013), "2 3 -1 -1");
        moved(t(12, 13, 5), t(12, 13, 5), "-1 -1 -1");
        Bench b = new Bench();
        b.make(LEAST, t(1, 2), t(1));
        CHECKS.refused("behind", Checks.INDEX, () -> b.bench.movedTo(0, 2));
        CHECKS.refused("below", Checks.INDEX, () -> b.bench.movedTo(0, -1));
        CHECKS.refused("no patch", Checks.INDEX, () -> b.bench.movedTo(1, 0));
        CHECKS.refused("patch below", Checks.INDEX, () -> b.bench.movedTo(-1, 0));
    }

    private static void theBestRunIsTaken() {
        moved(t(12, 13, 14, 5, 6, 7, 8, 9), t(5, 6, 7, 8, 12, 13, 9, 12, 13, 14), "7 8 9 -1 -1 -1 -1 -1");
        moved(t(12, 13, 5, 6, 7, 8), t(5, 6, 7, 12, 13, 8, 12, 13), "3 4 -1 -1 -1 -1");
        moved(t(1, 1, 1, 5, 6, 7), t(5, 6, 7, 1, 1), "3 4 4 -1 -1 -1");
        // A long run of lines that are alike wins against a short one of the same lines.
        moved(t(12, 13, 14, 5, 6, 7, 8, 9), t(5, 6, 7, 8, 12, 13, 9, 12, 15, 16), "7 8 9 -1 -1 -1 -1 -1");
    }

    private static void equalPatches() {
        Bench b = new Bench();
        b.make(LEAST, t(9, 1, 1, 1, 8), t(7, 1, 1, 6));
        b.make(RARE, t(9, 1, 1, 1, 8), t(7, 1, 1, 6));
        b.make(LEAST, t(9, 1, 1, 1, 8), t(7, 1, 1, 6));
        b.make(LEAST, t(9, 1, 1, 1, 8), t(7, 1, 1, 6, 6));
        b.make(LEAST, t(2, 9, 1, 1, 1, 8), t(7, 1, 1, 6));
        CHECKS.due("other pairs", b.bench.areEqual(0, 1), false);
        CHECKS.due("made again", b.bench.areEqual(0, 2), true);
        CHECKS.due("itself", b.bench.areEqual(1, 1), true);
        CHECKS.due("another new text", b.bench.areEqual(0, 3), false);
        CHECKS.due("another old text", b.bench.areEqual(4, 0), false);
        CHECKS.refused("first below", Checks.INDEX, () -> b.bench.areEqual(-1, 0) ? 1 : 0);
        CHECKS.refused("first", Checks.INDEX, () -> b.bench.areEqual(5, 0) ? 1 : 0);
        CHECKS.refused("second", Checks.INDEX, () -> b.bench.areEqual(0, 5) ? 1 : 0);
        CHECKS.refused("second below", Checks.INDEX, () -> b.bench.areEqual(0, -1) ? 1 : 0);
    }

    private static void distances() {
        Bench b = new Bench();
        b.make(LEAST, t(1), t(2));
        b.make(LEAST, t(1), t(3));
        b.make(LEAST, t(1), t(1));
        b.make(LEAST, t(4, 5, 1), t(4, 5, 2));
        b.make(LEAST, t(1, 5, 1), t(2, 5, 2));
        b.make(LEAST, t(2), t(1));
        CHECKS.due("itself", b.bench.distance(0, 0), 0);
        CHECKS.due("another added line", b.bench.distance(0, 1), 2);
        CHECKS.due("no hunks", b.bench.distance(0, 2), 3);
        CHECKS.due("no hunks in both", b.bench.distance(2, 2), 0);
        CHECKS.due("at another place", b.bench.distance(0, 3), 0);
        CHECKS.due("done twice", b.bench.distance(4, 0), 3);
        CHECKS.due("the other way", b.bench.distance(0, 5), 4);
        CHECKS.refused("first", Checks.INDEX, () -> b.bench.distance(6, 0));
        CHECKS.refused("first below", Checks.INDEX, () -> b.bench.distance(-1, 0));
        CHECKS.refused("second", Checks.INDEX, () -> b.bench.distance(0, 6));
        CHECKS.refused("second below", Checks.INDEX, () -> b.bench.distance(0, -1));
        // The longest rows of changes: all lines dropped, and all added.
        Bench c = new Bench();
        c.make(LEAST, t(1, 1, 1, 1, 1, 1, 1, 1, 1, 1, 1, 1, 1, 1, 1, 1),
                t(2, 2, 2, 2, 2, 2, 2, 2, 2, 2, 2, 2, 2, 2, 2, 2));
        c.bench.invert(0);
        CHECKS.due("all changed", c.bench.distance(0, 0), 0);
        CHECKS.due("all changed back", c.bench.distance(0, 1), 64);
    }
}
