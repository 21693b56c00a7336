import java.util.Arrays;

/** Promises 25 to 29: each sentence of the document that names a boundary of putting and merging. */
public final class PuttingEdgesTest {
    private static final Checks CHECKS = new Checks("PuttingEdgesTest");
    private static final int LEAST = PatchBench.LEAST, UNIQUE = PatchBench.UNIQUE, RARE = PatchBench.RARE;
    private static final int[] DISTINCT = {1, 2, 3, 4, 5, 6, 7, 8, 9, 11, 12, 13, 14, 15, 16, 17};
    private static final int[] MANY_OLD = {21, 1, 2, 22, 3, 4, 23, 5, 6, 24, 7, 8, 25, 9, 11, 26};
    private static final int[] MANY_NEW = {1, 31, 2, 3, 32, 4, 5, 33, 6, 7, 34, 8, 9, 35, 11, 36};

    private PuttingEdgesTest() {
    }

    public static void main(String[] args) {
        onItsOwnTextAPatchGivesTheNewOne();
        contextHasThreeLines();
        contextEndsAtTheNextHunk();
        fuzzGoesFromNoneToThree();
        aSideWithoutLinesLosesNone();
        placesAreTriedFromTheExpectedOneOn();
        placesReachFromTheBeginningToTheEnd();
        noPlaceIsAheadOfTheLastHunk();
        aHunkIsExpectedByTheLastOne();
        rejectedHunksAreASet();
        whereNoneWasPut();
        sixteenLinesArePut();
        groupsTouch();
        groupsAtTheEdges();
        groupsByWayOfOthers();
        theSameHunksAreDoneOnce();
        mergedTwice();
        sixteenLinesAreMerged();
        oldTextsAreTheSame();
        conflictsAreCounted();
        conflictsAtTheEdgesAreResolved();
        aTextFullOfConflicts();
        CHECKS.end();
    }

    private static int[] t(int... lines) {
        return lines;
    }

    private static int[] full(int line) {
        int[] lines = new int[16];
        Arrays.fill(lines, line);
        return lines;
    }

    private static void onItsOwnTextAPatchGivesTheNewOne() {
        CHECKS.says("A patch put on the text that it was made from gives the text that it was made for, by each way of "
                + "comparing");
        int[][] edges = {t(), t(1), full(0), full(1), DISTINCT, MANY_OLD, MANY_NEW, t(1, 1), t(0, 1, 0)};
        for (int[] before : edges) {
            for (int[] after : edges) {
                putOnItsOwn(before, after);
            }
        }
        for (int number = 0; number < 40; number++) {
            for (int other = 0; other < 40; other++) {
                putOnItsOwn(small(number), small(other));
            }
        }
    }

    /** One of the 40 texts of up to three lines that are 0, 1 or 10001. */
    private static int[] small(int number) {
        int length = number < 1 ? 0 : number < 4 ? 1 : number < 13 ? 2 : 3;
        int rest = number < 1 ? 0 : number < 4 ? number - 1 : number < 13 ? number - 4 : number - 13;
        int[] lines = new int[length];
        for (int i = 0; i < length; i++) {
            lines[i] = new int[] {0, 1, 10001}[rest % 3];
            rest /= 3;
        }
        return lines;
    }

    private static void putOnItsOwn(int[] before, int[] after) {
        for (int way = LEAST; way <= RARE; way++) {
            Bench b = new Bench();
            b.make(way, before, after);
            String what = "of " + b.text(0) + " to " + b.text(1) + " by " + way;
            CHECKS.due("rejected " + what, b.bench.putOn(0, 0, 0), 0);
            CHECKS.due("the text " + what, b.text(0), b.text(1));
            for (int hunk = 0; hunk < b.bench.hunks(0); hunk++) {
                CHECKS.due("hunk " + hunk + " " + what, b.bench.putAt(hunk), 10 * b.bench.hunk(0, hunk, 0));
            }
        }
    }

    /** Puts a patch on a text and tells the set of rejected hunks, where each one was put, and the text. */
    private static void put(int[] before, int[] after, int[] text, int fuzz, String want) {
        Bench b = new Bench();
        int patch = b.make(LEAST, before, after);
        b.fill(3, text);
        String what = b.text(0) + " to " + b.text(1) + " on " + b.text(3) + " with " + fuzz;
        StringBuilder got = new StringBuilder().append(b.bench.putOn(patch, 3, fuzz)).append(":");
        for (int hunk = 0; hunk < b.bench.hunks(patch); hunk++) {
            got.append(" ").append(b.bench.putAt(hunk));
        }
        CHECKS.due(what, got.append(": ").append(b.text(3)).toString(), want);
        CHECKS.refused("behind the hunks of " + what, Checks.INDEX, () -> b.bench.putAt(b.bench.hunks(patch)));
    }

    private static void contextHasThreeLines() {
        CHECKS.says("A hunk has the context of the 3 lines ahead of it and the 3 behind it in the old text");
        int[] old = t(1, 2, 3, 4, 5, 6, 7, 8, 9);
        int[] fresh = t(1, 2, 3, 4, 6, 7, 8, 9);
        put(old, fresh, t(11, 2, 3, 4, 5, 6, 7, 8, 11), 0, "0: 40: 11 2 3 4 6 7 8 11");
        put(old, fresh, t(1, 11, 3, 4, 5, 6, 7, 8, 9), 0, "1: -1: 1 11 3 4 5 6 7 8 9");
        put(old, fresh, t(1, 2, 3, 4, 5, 6, 7, 11, 9), 0, "1: -1: 1 2 3 4 5 6 7 11 9");
        put(old, fresh, t(2, 3, 4, 5, 6, 7, 8), 0, "0: 30: 2 3 4 6 7 8");
        put(old, fresh, t(3, 4, 5, 6, 7, 8, 9), 0, "1: -1: 3 4 5 6 7 8 9");
        put(old, fresh, t(1, 2, 3, 4, 5, 6, 7), 0, "1: -1: 1 2 3 4 5 6 7");
        CHECKS.says("as far as there are so many");
        put(t(1, 2, 3, 4), t(1, 2, 4), t(1, 2, 3, 4), 0, "0: 20: 1 2 4");
        put(t(1, 2, 3, 4), t(1, 2, 4), t(8, 1, 2, 3, 4, 9), 0, "0: 30: 8 1 2 4 9");
        put(t(1, 2, 3, 4), t(1, 2, 4), t(2, 3, 4), 0, "1: -1: 2 3 4");
        put(t(1, 2, 3, 4), t(1, 2, 4), t(1, 2, 3), 0, "1: -1: 1 2 3");
        put(t(1), t(), t(8, 1, 9), 0, "0: 10: 8 9");
    }

    private static void contextEndsAtTheNextHunk() {
        CHECKS.says("of paired lines alone up to the next hunk");
        int[] old = t(1, 2, 3, 4, 5);
        int[] fresh = t(9, 2, 3, 8, 5);
        put(old, fresh, t(1, 2, 3, 7, 5), 0, "2: 0 -1: 9 2 3 7 5");
        put(old, fresh, t(7, 2, 3, 4, 5), 0, "1: -1 30: 7 2 3 8 5");
        put(old, fresh, t(1, 2, 7, 4, 5), 0, "3: -1 -1: 1 2 7 4 5");
    }

    private static void fuzzGoesFromNoneToThree() {
        CHECKS.says("first with the whole context, then without the outermost line on both sides, and so on, as often as "
                + "the fuzz tells");
        int[] old = t(1, 2, 3, 4, 5, 6, 7);
        int[] fresh = t(1, 2, 3, 9, 5, 6, 7);
        int[][] texts = {t(1, 2, 3, 4, 5, 6, 7), t(8, 2, 3, 4, 5, 6, 8), t(8, 8, 3, 4, 5, 8, 8), t(8, 8, 8, 4, 8, 8, 8)};
        String[] put = {"1 2 3 9 5 6 7", "8 2 3 9 5 6 8", "8 8 3 9 5 8 8", "8 8 8 9 8 8 8"};
        String[] left = {"", "8 2 3 4 5 6 8", "8 8 3 4 5 8 8", "8 8 8 4 8 8 8"};
        for (int lost = 0; lost <= 3; lost++) {
            for (int fuzz = 0; fuzz <= 3; fuzz++) {
                String want = fuzz >= lost ? "0: 3" + lost + ": " + put[lost] : "1: -1: " + left[lost];
                put(old, fresh, texts[lost], fuzz, want);
            }
        }
        // With more context it is found farther away, and that comes first.
        put(t(1, 2, 3), t(1, 9, 3), t(8, 2, 3, 1, 2, 3), 3, "0: 40: 8 2 3 1 9 3");
        put(t(1, 2, 3), t(1, 9, 3), t(8, 2, 8), 3, "0: 11: 8 9 8");
        // Lines of both sides are lost, even if one side alone would do.
        put(old, fresh, t(8, 2, 3, 4, 5, 6, 7), 1, "0: 31: 8 2 3 9 5 6 7");
        put(old, fresh, t(1, 2, 3, 4, 5, 6, 8), 1, "0: 31: 1 2 3 9 5 6 8");
        put(old, fresh, t(1, 8, 3, 4, 5, 6, 7), 1, "1: -1: 1 8 3 4 5 6 7");
    }

    private static void aSideWithoutLinesLosesNone() {
        CHECKS.says("a side that has no line any more loses none");
        put(t(4, 5, 6), t(9, 5, 6), t(4, 5, 7), 1, "0: 1: 9 5 7");
        put(t(4, 5, 6), t(9, 5, 6), t(4, 7, 7), 1, "1: -1: 4 7 7");
        put(t(4, 5, 6), t(9, 5, 6), t(4, 7, 7), 2, "0: 2: 9 7 7");
        put(t(6, 5, 4), t(6, 5, 9), t(7, 5, 4), 1, "0: 21: 7 5 9");
        put(t(1, 4, 5, 6), t(1, 9, 5, 6), t(7, 4, 5, 7), 1, "0: 11: 7 9 5 7");
        put(t(1, 4, 5, 6), t(1, 9, 5, 6), t(7, 4, 7, 7), 2, "0: 12: 7 9 7 7");
        CHECKS.says("how many lines its context had lost on each side (or would have, if a side had none), added");
        put(t(1, 2, 3), t(1, 2, 3, 9), t(), 3, "0: 3: 9");
        put(t(1, 2, 3), t(1, 2, 3, 9), t(), 2, "1: -1: ");
        put(t(1), t(9), t(2), 3, "1: -1: 2");
    }

    private static void placesAreTriedFromTheExpectedOneOn() {
        CHECKS.says("first where it is expected, then 1 back, 1 on, 2 back, 2 on, and so on");
        int[] old = t(1, 2, 3, 4);
        int[] fresh = t(1, 2, 3, 9);
        put(old, fresh, t(4, 4, 4, 4, 4, 4, 4), 3, "0: 33: 4 4 4 9 4 4 4");
        put(old, fresh, t(4, 4, 4, 8, 4, 4, 4), 3, "0: 23: 4 4 9 8 4 4 4");
        put(old, fresh, t(4, 4, 8, 8, 4, 4, 4), 3, "0: 43: 4 4 8 8 9 4 4");
        put(old, fresh, t(4, 4, 8, 8, 8, 4, 4), 3, "0: 13: 4 9 8 8 8 4 4");
        put(old, fresh, t(4, 8, 8, 8, 8, 4, 4), 3, "0: 53: 4 8 8 8 8 9 4");
        put(old, fresh, t(4, 8, 8, 8, 8, 8, 4), 3, "0: 3: 9 8 8 8 8 8 4");
        put(old, fresh, t(8, 8, 8, 8, 8, 8, 4), 3, "0: 63: 8 8 8 8 8 8 9");
        put(old, fresh, t(8, 8, 8, 8, 8, 8, 8), 3, "1: -1: 8 8 8 8 8 8 8");
    }

    private static void placesReachFromTheBeginningToTheEnd() {
        CHECKS.says("With each of these the places are tried for the first dropped line (or the line behind the hunk)");
        int[] last = full(8);
        last[15] = 4;
        put(t(4), t(9), last, 0, "0: 150: 8 8 8 8 8 8 8 8 8 8 8 8 8 8 8 9");
        int[] first = full(8);
        first[0] = 4;
        int[] old = full(1);
        old[15] = 4;
        int[] fresh = full(1);
        fresh[15] = 9;
        put(old, fresh, first, 3, "0: 3: 9 8 8 8 8 8 8 8 8 8 8 8 8 8 8 8");
        // A hunk that only adds can come behind the last line, but no farther.
        put(t(), t(9), t(1, 2), 0, "0: 0: 9 1 2");
        put(t(1, 2), t(1, 2, 9), t(3, 3, 1, 2), 0, "0: 40: 3 3 1 2 9");
        put(t(1, 2), t(9, 1, 2), t(3, 3, 1, 2), 0, "0: 20: 3 3 9 1 2");
        put(t(1, 2, 3), t(1, 2, 3, 9), t(7), 3, "0: 13: 7 9");
    }

    private static void noPlaceIsAheadOfTheLastHunk() {
        CHECKS.says("none of them ahead of the end of the dropped lines of the hunk that was put last");
        put(t(2, 3, 1, 7), t(8, 1, 9), t(2, 3, 7), 1, "0: 1 21: 8 9");
        put(t(2, 7, 1, 7), t(8, 1, 9), t(2, 7), 1, "2: 1 -1: 8");
        put(t(2, 7, 1, 7), t(8, 1, 9), t(2, 7, 7), 1, "0: 1 21: 8 9");
        put(t(2, 1, 7), t(8, 1, 9), t(7, 2), 1, "2: 11 -1: 7 8");
        put(t(1), t(8, 1, 9), t(), 1, "0: 1 1: 8 9");
        CHECKS.says("(its context may lie on these, as the text is looked at as it was)");
        put(t(1, 3, 3, 4), t(1, 9, 3, 8), t(1, 3, 4), 1, "0: 11 20: 1 9 8");
    }

    private static void aHunkIsExpectedByTheLastOne() {
        CHECKS.says("It is expected at its place in the old text, and by as much on as the hunk that was put last was.");
        int[] old = t(1, 2, 3, 4, 5, 6, 7, 8);
        int[] fresh = t(1, 9, 3, 4, 5, 6, 9, 8);
        put(old, fresh, t(5, 5, 1, 2, 3, 4, 5, 6, 7, 8), 0, "0: 30 80: 5 5 1 9 3 4 5 6 9 8");
        // The second one is expected 2 on, between two places that fit.
        put(t(2, 1, 1, 1, 1, 7), t(9, 1, 1, 1, 1, 9), t(8, 8, 2, 8, 8, 8, 7, 7, 7), 3, "0: 23 73: 8 8 9 8 8 8 7 9 7");
        // One that is rejected does not count; the one put last does.
        put(t(2, 1, 4, 1, 1, 7), t(8, 1, 5, 1, 1, 9), t(6, 6, 2, 1, 6, 6, 7, 7, 7), 3,
                "2: 20 -1 72: 6 6 8 1 6 6 7 9 7");
    }

    private static void rejectedHunksAreASet() {
        CHECKS.says("Returns the hunks that are rejected, as a set: the bit h for the hunk h.");
        String nowhere = " -1 -1 -1 -1 -1 -1 -1 -1 -1 -1 -1";
        put(MANY_OLD, MANY_NEW, t(), 0, "2047:" + nowhere + ": ");
        put(MANY_OLD, MANY_NEW, MANY_OLD, 0, "0: 0 20 30 50 60 80 90 110 120 140 150: "
                + "1 31 2 3 32 4 5 33 6 7 34 8 9 35 11 36");
        put(MANY_OLD, MANY_NEW, t(11, 26), 0, "1023: -1 -1 -1 -1 -1 -1 -1 -1 -1 -1 10: 11 36");
        put(MANY_OLD, MANY_NEW, t(21, 1), 0, "2046: 0 -1 -1 -1 -1 -1 -1 -1 -1 -1 -1: 1");
        put(DISTINCT, DISTINCT, t(5), 3, "0:: 5");
    }

    private static void whereNoneWasPut() {
        CHECKS.says("if that patch had no such hunk, or none was put");
        Bench b = new Bench();
        CHECKS.refused("none was put", Checks.INDEX, () -> b.bench.putAt(0));
        b.make(LEAST, t(1), t(1));
        b.make(LEAST, MANY_OLD, MANY_NEW);
        CHECKS.refused("patches are there", Checks.INDEX, () -> b.bench.putAt(0));
        b.bench.putOn(0, 3, 0);
        CHECKS.refused("one without hunks was put", Checks.INDEX, () -> b.bench.putAt(0));
        b.bench.putOn(1, 3, 0);
        CHECKS.due("the last hunk", b.bench.putAt(10), PatchBench.NONE);
        CHECKS.refused("behind it", Checks.INDEX, () -> b.bench.putAt(11));
        CHECKS.refused("ahead of the first", Checks.INDEX, () -> b.bench.putAt(-1));
        b.bench.putOn(0, 3, 0);
        CHECKS.refused("one without hunks was put last", Checks.INDEX, () -> b.bench.putAt(0));
    }

    private static void sixteenLinesArePut() {
        CHECKS.says("if the text would have more than 16 lines then");
        Bench b = new Bench();
        b.make(LEAST, t(), t(5));
        b.make(LEAST, t(1), t(6));
        b.make(LEAST, t(7), t(7, 8));
        b.make(LEAST, t(), DISTINCT);
        b.fill(3, DISTINCT);
        CHECKS.due("one for one", b.bench.putOn(1, 3, 0), 0);
        CHECKS.due("16 lines still", b.bench.length(3), 16);
        CHECKS.refused("the 17th", Checks.STATE, () -> b.bench.putOn(0, 3, 0));
        CHECKS.due("the places of the one before", b.bench.putAt(0), 0);
        CHECKS.refused("and no other", Checks.INDEX, () -> b.bench.putAt(1));
        CHECKS.due("the first line", b.bench.lineAt(3, 0), 6);
        b.bench.cut(3, 6);
        CHECKS.due("rejected, nothing grows", b.bench.putOn(2, 3, 0), 1);
        CHECKS.due("the 16th", b.bench.putOn(0, 3, 0), 0);
        CHECKS.due("16 lines again", b.bench.length(3), 16);
        CHECKS.due("rejected on a full text", b.bench.putOn(2, 3, 0), 1);
        CHECKS.due("16 at once", b.bench.putOn(3, 2, 3), 0);
        CHECKS.due("they are there", b.bench.lineAt(2, 15), 17);
        CHECKS.refused("32", Checks.STATE, () -> b.bench.putOn(3, 2, 3));
    }

    private static void merged(int[] old, int[] first, int[] second, String want) {
        Bench b = new Bench();
        b.make(LEAST, old, first);
        b.make(LEAST, old, second);
        String what = "merge of " + b.lines(0, false) + " to " + b.lines(0, true) + " and " + b.lines(1, true);
        CHECKS.due(what, b.bench.merge(0, 1, 2) + ": " + b.text(2), want);
    }

    private static void groupsTouch() {
        CHECKS.says("a hunk of the one and a hunk of the other one are in one group, if they touch in the old text");
        int[] old = t(1, 2, 3, 4, 5, 6);
        int[] own = t(1, 2, 9, 4, 5, 6);
        merged(old, own, t(8, 2, 3, 4, 5, 6), "0: 8 2 9 4 5 6");
        merged(old, own, t(1, 8, 3, 4, 5, 6), "1: 1 50001 2 9 50002 8 3 50003 4 5 6");
        merged(old, own, t(1, 8, 2, 3, 4, 5, 6), "0: 1 8 2 9 4 5 6");
        merged(old, own, t(1, 2, 8, 3, 4, 5, 6), "1: 1 2 50001 9 50002 8 3 50003 4 5 6");
        merged(old, own, t(1, 2, 8, 4, 5, 6), "1: 1 2 50001 9 50002 8 50003 4 5 6");
        merged(old, own, t(1, 2, 3, 8, 4, 5, 6), "1: 1 2 50001 9 50002 3 8 50003 4 5 6");
        merged(old, own, t(1, 2, 3, 8, 5, 6), "1: 1 2 50001 9 4 50002 3 8 50003 5 6");
        merged(old, own, t(1, 2, 3, 4, 8, 5, 6), "0: 1 2 9 4 8 5 6");
        merged(old, own, t(1, 2, 3, 4, 8, 6), "0: 1 2 9 4 8 6");
        merged(old, own, t(), "1: 50001 1 2 9 4 5 6 50002 50003");
    }

    private static void groupsAtTheEdges() {
        CHECKS.says("A group that is one hunk is done.");
        merged(t(1, 2), t(9, 1, 2), t(1, 2, 8), "0: 9 1 2 8");
        merged(t(1, 2), t(1, 2, 8), t(9, 1, 2), "0: 9 1 2 8");
        merged(t(1, 2, 3), t(2, 3), t(1, 2), "0: 2");
        merged(t(1, 2, 3), t(1, 2), t(2, 3), "0: 2");
        merged(t(1), t(1), t(1), "0: 1");
        merged(t(), t(), t(), "0: ");
        merged(t(), t(1), t(), "0: 1");
        merged(DISTINCT, t(), DISTINCT, "0: ");
        merged(t(), t(), DISTINCT, "0: 1 2 3 4 5 6 7 8 9 11 12 13 14 15 16 17");
        CHECKS.says("the mark 50001, what the first patch makes of it, the mark 50002, what the second one makes of it, "
                + "the mark 50003");
        merged(t(), t(1), t(2), "1: 50001 1 50002 2 50003");
        merged(t(1), t(), t(2), "1: 50001 50002 2 50003");
        merged(t(1), t(2), t(), "1: 50001 2 50002 50003");
        merged(t(1, 2, 3), t(8, 2, 3), t(9, 2, 3), "1: 50001 8 50002 9 50003 2 3");
        merged(t(1, 2, 3), t(1, 2, 8), t(1, 2, 9), "1: 1 2 50001 8 50002 9 50003");
        merged(t(1, 2), t(1, 2, 8), t(1, 2, 9), "1: 1 2 50001 8 50002 9 50003");
        merged(t(1, 2), t(8, 1, 2), t(9, 1, 2), "1: 50001 8 50002 9 50003 1 2");
        CHECKS.says("Returns how many groups came with marks.");
        merged(t(1, 2, 3), t(8, 2, 8), t(9, 2, 9), "2: 50001 8 50002 9 50003 2 50001 8 50002 9 50003");
        merged(t(1, 2, 3), t(8, 2, 8), t(9, 2, 8), "1: 50001 8 50002 9 50003 2 8");
        merged(t(1, 2, 3, 4, 5), t(2, 4), t(6, 2, 7, 4, 8),
                "3: 50001 50002 6 50003 2 50001 50002 7 50003 4 50001 50002 8 50003");
    }

    private static void groupsByWayOfOthers() {
        CHECKS.says("are in one group, if they touch in the old text, or by way of others");
        int[] old = t(1, 2, 3, 4, 5, 6, 7);
        merged(old, t(8, 3, 9, 6, 7), t(1, 9, 4, 8, 7), "1: 50001 8 3 9 6 50002 1 9 4 8 50003 7");
        merged(old, t(1, 8, 3, 8, 5, 6, 7), t(1, 2, 9, 4, 5, 6, 7), "1: 1 50001 8 3 8 50002 2 9 4 50003 5 6 7");
        merged(old, t(1, 2, 9, 4, 5, 6, 7), t(1, 8, 3, 8, 5, 6, 7), "1: 1 50001 2 9 4 50002 8 3 8 50003 5 6 7");
        merged(old, t(1, 8, 3, 4, 8, 6, 7), t(1, 2, 9, 4, 5, 6, 9), "1: 1 50001 8 3 50002 2 9 50003 4 8 6 9");
        merged(old, t(1, 8, 8, 3, 4, 8, 6, 7), t(1, 2, 9, 5, 6, 7), "1: 1 50001 8 8 3 4 8 50002 2 9 5 50003 6 7");
    }

    private static void theSameHunksAreDoneOnce() {
        CHECKS.says("A group of two hunks that are the same, by place and lines, is done once.");
        merged(t(1), t(2), t(2), "0: 2");
        merged(t(), t(2), t(2), "0: 2");
        merged(t(1), t(), t(), "0: ");
        merged(DISTINCT, full(21), full(21), "0: 21 21 21 21 21 21 21 21 21 21 21 21 21 21 21 21");
        merged(MANY_OLD, MANY_NEW, MANY_NEW, "0: 1 31 2 3 32 4 5 33 6 7 34 8 9 35 11 36");
        // The same place in the old text, though not in the new ones.
        merged(t(1, 2, 3), t(8, 8, 1, 2, 9), t(1, 2, 9), "0: 8 8 1 2 9");
        merged(t(1, 2), t(3), t(10003), "1: 50001 3 50002 10003 50003");
        merged(t(1, 2), t(3, 4), t(3), "1: 50001 3 4 50002 3 50003");
        merged(t(1, 2), t(3, 4), t(3, 5), "1: 50001 3 4 50002 3 5 50003");
        merged(t(1, 2), t(3, 2), t(3), "1: 50001 3 2 50002 3 50003");
    }

    private static void mergedTwice() {
        CHECKS.says("Merges two patches into a text, which becomes what comes of it.");
        Bench b = new Bench();
        b.make(LEAST, t(1, 2, 3, 4, 5), t(1, 2, 3, 4, 9));
        b.make(LEAST, t(1, 2, 3, 4, 5), t(1, 2, 3, 8, 5));
        b.make(LEAST, t(1, 2), t(1, 2, 6));
        b.make(LEAST, t(1, 2), t(1, 2));
        for (int text = 0; text <= 3; text++) {
            b.fill(text, DISTINCT);
            CHECKS.due("a merge at the end", b.bench.merge(0, 1, text), 1);
            CHECKS.due("what comes of it", b.text(text), "1 2 3 50001 4 9 50002 8 5 50003");
            CHECKS.due("another one", b.bench.merge(2, 3, text), 0);
            CHECKS.due("what comes of that", b.text(text), "1 2 6");
            CHECKS.due("one with itself", b.bench.merge(3, 3, text), 0);
            CHECKS.due("what comes of that", b.text(text), "1 2");
        }
        CHECKS.due("the patches are as they were", b.lines(0, true), "1 2 3 4 9");
    }

    private static void sixteenLinesAreMerged() {
        CHECKS.says("or the text would have more than 16 lines");
        Bench b = new Bench();
        b.make(LEAST, t(1), t(2, 2, 2, 2, 2, 2, 2));
        b.make(LEAST, t(1), t(3, 3, 3, 3, 3, 3));
        b.make(LEAST, t(1), t(3, 3, 3, 3, 3, 3, 3));
        b.make(LEAST, DISTINCT, full(21));
        b.make(LEAST, DISTINCT, full(22));
        b.fill(3, 5);
        CHECKS.refused("17 lines", Checks.STATE, () -> b.bench.merge(0, 2, 3));
        CHECKS.refused("35 lines", Checks.STATE, () -> b.bench.merge(3, 4, 3));
        CHECKS.due("the text is as it was", b.text(3), "5");
        CHECKS.due("16 lines", b.bench.merge(0, 1, 3), 1);
        CHECKS.due("they are there", b.text(3), "50001 2 2 2 2 2 2 2 50002 3 3 3 3 3 3 50003");
        CHECKS.refused("17 lines, full already", Checks.STATE, () -> b.bench.merge(2, 0, 3));
        CHECKS.due("the text is as it was", b.bench.length(3), 16);
    }

    private static void oldTextsAreTheSame() {
        CHECKS.says("if their old texts are not the same");
        int[][] others = {t(), t(1), t(1, 2, 3), t(2, 1), t(1, 10002), t(2, 2)};
        for (int[] other : others) {
            Bench b = new Bench();
            b.make(LEAST, t(1, 2), t(3));
            b.make(LEAST, other, t(3));
            b.fill(3, 5);
            CHECKS.refused("merge with " + b.lines(1, false), Checks.STATE, () -> b.bench.merge(0, 1, 3));
            CHECKS.refused("merge of " + b.lines(1, false), Checks.STATE, () -> b.bench.merge(1, 0, 3));
            CHECKS.due("the text is as it was", b.text(3), "5");
        }
    }

    private static void counted(int want, int... lines) {
        Bench b = new Bench();
        for (int text = 0; text <= 3; text++) {
            b.fill(text, lines);
            CHECKS.due("conflicts of " + b.text(text), b.bench.conflicts(text), want);
        }
    }

    private static void conflictsAreCounted() {
        CHECKS.says("A text has a conflict for each mark 50001 behind which the next mark is a 50002, and the one behind "
                + "that a 50003");
        counted(0);
        counted(0, DISTINCT);
        counted(0, full(50001));
        counted(0, full(50002));
        counted(0, full(50003));
        counted(0, 50001);
        counted(0, 50001, 50002);
        counted(1, 50001, 50002, 50003);
        counted(0, 50002, 50003);
        counted(0, 50001, 50003);
        counted(0, 50001, 50002, 50001, 50003);
        counted(0, 50001, 50002, 50002, 50003);
        counted(0, 50001, 50003, 50002, 50003);
        counted(1, 50001, 50001, 50002, 50003);
        counted(1, 50001, 50002, 50001, 50002, 50003);
        counted(1, 50001, 50002, 50003, 50003);
        counted(1, 50001, 1, 2, 3, 4, 5, 6, 7, 8, 50002, 9, 1, 2, 3, 50003);
        counted(5, 50001, 50002, 50003, 50001, 50002, 50003, 50001, 50002, 50003, 50001, 50002, 50003, 50001, 50002,
                50003, 50001);
    }

    private static void resolved(int[] text, int conflict, int side, String want) {
        Bench b = new Bench();
        b.fill(1, text);
        String what = b.text(1) + ", conflict " + conflict + ", side " + side;
        int length = b.bench.resolve(1, conflict, side);
        CHECKS.due(what, b.text(1), want);
        CHECKS.due("length of " + what, length, b.bench.length(1));
    }

    private static void conflictsAtTheEdgesAreResolved() {
        CHECKS.says("the lines of the first side, or the second one, or both, one behind the other, take its place");
        int[] whole = {50001, 1, 2, 50002, 3, 50003};
        resolved(whole, 0, 1, "1 2");
        resolved(whole, 0, 2, "3");
        resolved(whole, 0, 3, "1 2 3");
        int[] first = {50001, 1, 50002, 2, 50003, 7, 8};
        resolved(first, 0, 1, "1 7 8");
        resolved(first, 0, 2, "2 7 8");
        resolved(first, 0, 3, "1 2 7 8");
        int[] last = {7, 8, 50001, 1, 50002, 2, 50003};
        resolved(last, 0, 1, "7 8 1");
        resolved(last, 0, 2, "7 8 2");
        resolved(last, 0, 3, "7 8 1 2");
        int[] empty = {50001, 50002, 50003};
        resolved(empty, 0, 1, "");
        resolved(empty, 0, 2, "");
        resolved(empty, 0, 3, "");
        resolved(t(50001, 50002, 4, 50003), 0, 1, "");
        resolved(t(50001, 50002, 4, 50003), 0, 2, "4");
        resolved(t(50003, 50001, 50002, 50003, 50001), 0, 3, "50003 50001");
        // What is resolved can make another conflict of the marks around it.
        resolved(t(50001, 50002, 50001, 50002, 50003, 50003), 0, 1, "50001 50002 50003");
    }

    private static void aTextFullOfConflicts() {
        CHECKS.says("conflicts are counted from 0");
        int[] five = {50001, 50002, 50003, 50001, 50002, 50003, 50001, 1, 50002, 50003, 50001, 50002, 50003, 50001, 50002,
            50003};
        Bench b = new Bench();
        b.fill(0, five);
        CHECKS.refused("conflict 5", Checks.INDEX, () -> b.bench.resolve(0, 5, 1));
        CHECKS.refused("conflict -1", Checks.INDEX, () -> b.bench.resolve(0, -1, 1));
        CHECKS.refused("side 0", Checks.ARGUMENT, () -> b.bench.resolve(0, 4, 0));
        CHECKS.refused("side 4", Checks.ARGUMENT, () -> b.bench.resolve(0, 4, 4));
        CHECKS.due("nothing changed", b.bench.length(0), 16);
        CHECKS.due("the one with a line", b.bench.resolve(0, 2, 1), 13);
        CHECKS.due("the line", b.bench.lineAt(0, 6), 1);
        CHECKS.due("the last one", b.bench.resolve(0, 3, 3), 10);
        CHECKS.due("the first one", b.bench.resolve(0, 0, 2), 7);
        CHECKS.due("what is left", b.text(0), "50001 50002 50003 1 50001 50002 50003");
        CHECKS.due("two are left", b.bench.conflicts(0), 2);
        CHECKS.due("the second", b.bench.resolve(0, 1, 1), 4);
        CHECKS.due("the first", b.bench.resolve(0, 0, 1), 1);
        CHECKS.refused("none is left", Checks.INDEX, () -> b.bench.resolve(0, 0, 1));
    }
}
