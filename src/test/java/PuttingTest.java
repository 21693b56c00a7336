/** Promises 25 to 29: putting patches on texts, merging them, and conflicts. */
public final class PuttingTest {
    private static final Checks CHECKS = new Checks("PuttingTest");
    private static final int LEAST = PatchBench.LEAST;

    private PuttingTest() {
    }

    public static void main(String[] args) {
        aPatchIsPutOnItsOwnText();
        aHunkIsFoundElsewhere();
        fuzzLosesContext();
        placesAreTriedFromTheExpectedOne();
        aHunkIsExpectedAsFarOnAsTheLastOne();
        hunksStayInTheirOrder();
        contextMayLieOnWhatIsDropped();
        rejectedHunksAreTold();
        putOnRefusesWhatCantBe();
        hunksApartAreMerged();
        touchingHunksComeWithMarks();
        sameHunksAreDoneOnce();
        mergeRefusesWhatCantBe();
        conflictsAreCounted();
        conflictsAreResolved();
        resolveRefusesWhatIsNotThere();
        CHECKS.end();
    }

    private static int[] t(int... lines) {
        return lines;
    }

    /** Puts a patch on a text and tells the set of rejected hunks, where each one was put, and the text. */
    private static void put(int[] before, int[] after, int[] text, int fuzz, String want) {
        Bench b = new Bench();
        int patch = b.make(LEAST, before, after);
        b.fill(3, text);
        String what = b.text(0) + " to " + b.text(1) + " on " + b.text(3) + " with " + fuzz;
        StringBuilder got = new StringBuilder().append(b.bench.putOn(patch, 3, fuzz)).append(":");
        for (int hunk = 0; hunk < b.bench.hunks(patch); hunk++) {
            got.append(" ").append(b.bench.putAt(hunk));
        }
        CHECKS.due(what, got.append(": ").append(b.text(3)).toString(), want);
        CHECKS.refused("behind the hunks of " + what, Checks.INDEX, () -> b.bench.putAt(b.bench.hunks(patch)));
    }

    private static void aPatchIsPutOnItsOwnText() {
        put(t(1, 2, 3, 4), t(1, 5, 3, 6, 4), t(1, 2, 3, 4), 0, "0: 10 30: 1 5 3 6 4");
        put(t(), t(1, 2), t(), 0, "0: 0: 1 2");
        put(t(1, 2), t(), t(1, 2), 0, "0: 0: ");
        put(t(1, 2), t(1, 2), t(7, 8), 0, "0:: 7 8");
    }

    private static void aHunkIsFoundElsewhere() {
        int[] old = t(1, 2, 3, 4, 5, 6, 7);
        int[] fresh = t(1, 2, 3, 9, 5, 6, 7);
        put(old, fresh, t(8, 1, 2, 3, 4, 5, 6, 7), 0, "0: 40: 8 1 2 3 9 5 6 7");
        put(old, fresh, t(8, 2, 3, 4, 5, 6, 8), 0, "1: -1: 8 2 3 4 5 6 8");
        put(old, t(1, 2, 3, 4, 9, 5, 6, 7), t(8, 8, 2, 3, 4, 5, 6, 7), 0, "0: 50: 8 8 2 3 4 9 5 6 7");
        // Three lines of context and no more are looked at.
        put(t(1, 2, 3, 4, 5, 6, 7, 8, 9), t(1, 2, 3, 4, 6, 7, 8, 9), t(7, 2, 3, 4, 5, 6, 7, 8, 7), 0,
                "0: 40: 7 2 3 4 6 7 8 7");
        // A pure add at the end, and ahead of all.
        put(t(1, 2), t(1, 2, 3), t(9, 1, 2), 0, "0: 30: 9 1 2 3");
        put(t(1, 2), t(3, 1, 2), t(1, 2, 9), 0, "0: 0: 3 1 2 9");
    }

    private static void fuzzLosesContext() {
        int[] old = t(1, 2, 3, 4, 5, 6, 7);
        int[] fresh = t(1, 2, 3, 9, 5, 6, 7);
        put(old, fresh, t(8, 2, 3, 4, 5, 6, 8), 1, "0: 31: 8 2 3 9 5 6 8");
        put(old, fresh, t(8, 8, 3, 4, 5, 8, 8), 1, "1: -1: 8 8 3 4 5 8 8");
        put(old, fresh, t(8, 8, 3, 4, 5, 8, 8), 2, "0: 32: 8 8 3 9 5 8 8");
        put(old, fresh, t(4), 2, "1: -1: 4");
        put(old, fresh, t(4), 3, "0: 3: 9");
        put(old, fresh, t(5), 3, "1: -1: 5");
        // A side without lines loses none, but the count goes on.
        put(t(4, 5, 6), t(9, 5, 6), t(4, 5, 7), 1, "0: 1: 9 5 7");
        put(t(4, 5), t(9, 5), t(4, 7), 3, "0: 1: 9 7");
        put(t(4), t(9), t(5, 4), 3, "0: 10: 5 9");
        // All lost, a pure add comes where it is expected.
        put(t(1, 2), t(1, 5, 2), t(7, 8, 9), 1, "0: 11: 7 5 8 9");
        // Whole context elsewhere is taken ahead of less context at the expected place.
        put(t(1, 2, 3), t(1, 9, 3), t(8, 2, 3, 1, 2, 3), 3, "0: 40: 8 2 3 1 9 3");
    }

    private static void placesAreTriedFromTheExpectedOne() {
        int[] old = t(1, 2, 4);
        int[] fresh = t(1, 2, 9);
        put(old, fresh, t(8, 4, 8, 4), 2, "0: 12: 8 9 8 4");
        put(old, fresh, t(4, 8, 8, 4), 2, "0: 32: 4 8 8 9");
        put(old, fresh, t(4, 8, 8, 8, 4), 2, "0: 2: 9 8 8 8 4");
        put(old, fresh, t(4, 4, 4, 4), 2, "0: 22: 4 4 9 4");
    }

    private static void aHunkIsExpectedAsFarOnAsTheLastOne() {
        put(t(2, 1, 1, 1, 1, 7), t(8, 1, 1, 1, 1, 9), t(6, 6, 6, 2, 1, 6, 7, 6, 6, 7), 3,
                "0: 32 93: 6 6 6 8 1 6 7 6 6 9");
        put(t(1, 2, 3, 4, 5, 6, 7, 8), t(1, 9, 3, 4, 5, 6, 9, 8), t(5, 5, 1, 2, 3, 4, 5, 6, 7, 8), 0,
                "0: 30 80: 5 5 1 9 3 4 5 6 9 8");
        put(t(5, 2, 1, 1, 1, 1, 7), t(5, 8, 1, 1, 1, 1, 9), t(6, 6, 5, 2, 1, 6, 6, 7, 6, 6, 7), 3,
                "0: 32 73: 6 6 5 8 1 6 6 9 6 6 7");
        // A rejected hunk does not count: what is put next goes by the one put last.
        put(t(2, 1, 4, 1, 1, 7), t(8, 1, 5, 1, 1, 9), t(6, 6, 2, 1, 6, 6, 7), 3,
                "2: 20 -1 62: 6 6 8 1 6 6 9");
    }

    private static void hunksStayInTheirOrder() {
        put(t(2, 1, 7), t(8, 1, 9), t(7, 2, 1), 3, "2: 10 -1: 7 8 1");
        put(t(2, 1, 7), t(8, 1, 9), t(2, 1, 7), 3, "0: 0 20: 8 1 9");
        put(t(2, 1, 7), t(8, 1, 9), t(2, 7), 1, "0: 1 11: 8 9");
        put(t(1), t(8, 1, 9), t(5), 1, "0: 1 11: 8 5 9");
    }

    private static void contextMayLieOnWhatIsDropped() {
        put(t(1, 3, 3, 4), t(1, 9, 3, 8), t(1, 3, 4), 1, "0: 11 20: 1 9 8");
    }

    private static void rejectedHunksAreTold() {
        int[] old = t(1, 2, 3, 4, 5, 6, 7);
        int[] fresh = t(8, 2, 8, 4, 8, 6, 8);
        put(old, fresh, t(1, 2, 3, 4, 5, 6, 7), 0, "0: 0 20 40 60: 8 2 8 4 8 6 8");
        put(old, fresh, t(2, 4, 6), 3, "15: -1 -1 -1 -1: 2 4 6");
        put(old, fresh, t(1, 2, 9, 4, 5, 6, 7), 0, "2: 0 -1 40 60: 8 2 9 4 8 6 8");
        put(old, fresh, t(), 3, "15: -1 -1 -1 -1: ");
        Bench b = new Bench();
        b.make(LEAST, old, fresh);
        b.make(LEAST, t(1), t(2));
        b.fill(2, old);
        b.bench.putOn(0, 2, 0);
        b.bench.putOn(1, 2, 0);
        CHECKS.due("the last patch counts", b.bench.putAt(0), PatchBench.NONE);
        CHECKS.refused("it had one hunk", Checks.INDEX, () -> b.bench.putAt(1));
    }

    private static void putOnRefusesWhatCantBe() {
        Bench b = new Bench();
        b.make(LEAST, t(1, 2), t(1, 3));
        b.make(LEAST, t(1), t(1, 5, 5));
        PatchBench x = b.bench;
        CHECKS.refused("none was put", Checks.INDEX, () -> x.putAt(0));
        b.fill(3, 1, 2);
        x.putOn(0, 3, 0);
        b.fill(2, 1, 2, 3, 4, 5, 6, 7, 8, 9, 11, 12, 13, 14, 15, 16);
        CHECKS.refused("17 lines", Checks.STATE, () -> x.putOn(1, 2, 3));
        CHECKS.due("the text is as it was", b.text(2), "1 2 3 4 5 6 7 8 9 11 12 13 14 15 16");
        CHECKS.due("the places are as they were", x.putAt(0), 10);
        x.cut(2, 14);
        CHECKS.due("16 lines", x.putOn(1, 2, 3), 0);
        CHECKS.due("length", x.length(2), 16);
        CHECKS.refused("fuzz below", Checks.ARGUMENT, () -> x.putOn(0, 0, -1));
        CHECKS.refused("fuzz above", Checks.ARGUMENT, () -> x.putOn(0, 0, 4));
        CHECKS.refused("patch below", Checks.INDEX, () -> x.putOn(-1, 0, 4));
        CHECKS.refused("patch above", Checks.INDEX, () -> x.putOn(2, 0, 4));
        CHECKS.refused("text below", Checks.INDEX, () -> x.putOn(0, -1, 4));
        CHECKS.refused("text above", Checks.INDEX, () -> x.putOn(0, 4, 4));
        CHECKS.refused("putAt below", Checks.INDEX, () -> x.putAt(-1));
    }

    private static void merged(int[] old, int[] first, int[] second, String want) {
        Bench b = new Bench();
        b.make(LEAST, old, first);
        b.make(LEAST, old, second);
        b.fill(3, 7, 7, 7);
        String what = "merge of " + b.lines(0, false) + " to " + b.lines(0, true) + " and " + b.lines(1, true);
        int marked = b.bench.merge(0, 1, 3);
        CHECKS.due(what, marked + ": " + b.text(3), want);
        CHECKS.due("patches are as they were", b.bench.patches(), 2);
    }

    private static void hunksApartAreMerged() {
        int[] old = t(1, 2, 3, 4, 5);
        merged(old, t(1, 8, 3, 4, 5), t(1, 2, 3, 9, 5), "0: 1 8 3 9 5");
        merged(old, t(1, 2, 3, 9, 5), t(1, 8, 3, 4, 5), "0: 1 8 3 9 5");
        merged(old, t(2, 3, 4, 5), t(1, 2, 3, 4, 5, 6), "0: 2 3 4 5 6");
        merged(old, old, old, "0: 1 2 3 4 5");
        merged(old, old, t(3), "0: 3");
        merged(old, t(9, 9, 1, 2, 4, 5), old, "0: 9 9 1 2 4 5");
        merged(t(), t(), t(1), "0: 1");
    }

    private static void touchingHunksComeWithMarks() {
        int[] old = t(1, 2, 3, 4, 5);
        merged(old, t(1, 8, 3, 4, 5), t(1, 2, 9, 4, 5), "1: 1 50001 8 3 50002 2 9 50003 4 5");
        merged(old, t(1, 8, 3, 4, 5), t(1, 9, 3, 4, 5), "1: 1 50001 8 50002 9 50003 3 4 5");
        merged(old, t(1, 3, 5), t(1, 2, 9, 4, 5), "1: 1 50001 3 50002 2 9 4 50003 5");
        merged(old, t(1, 2, 9, 4, 5), t(1, 3, 5), "1: 1 50001 2 9 4 50002 3 50003 5");
        merged(old, t(1, 2, 8, 3, 4, 5), t(1, 2, 9, 3, 4, 5), "1: 1 2 50001 8 50002 9 50003 3 4 5");
        merged(old, t(1, 8, 2, 3, 4, 5), t(1, 3, 4, 5), "1: 1 50001 8 2 50002 50003 3 4 5");
        merged(old, t(1, 2, 8, 3, 4, 5), t(1, 3, 4, 5), "1: 1 50001 2 8 50002 50003 3 4 5");
        merged(old, t(1, 2, 3, 4, 5, 6), t(), "1: 50001 1 2 3 4 5 6 50002 50003");
        merged(t(), t(1), t(2), "1: 50001 1 50002 2 50003");
        merged(t(1, 2, 3), t(8, 2, 9), t(7, 2, 6), "2: 50001 8 50002 7 50003 2 50001 9 50002 6 50003");
        merged(t(1, 2, 3, 4, 5), t(8, 3, 4), t(9, 9, 3, 4, 5, 6),
                "2: 50001 8 50002 9 9 50003 3 4 50001 50002 5 6 50003");
    }

    private static void sameHunksAreDoneOnce() {
        int[] old = t(1, 2, 3, 4, 5);
        merged(old, t(1, 8, 3, 4, 5), t(1, 8, 3, 4, 5), "0: 1 8 3 4 5");
        merged(old, t(1, 8, 3, 4, 5), t(1, 8, 3, 9, 5), "0: 1 8 3 9 5");
        merged(old, t(1, 2, 3, 4, 5, 6), t(1, 2, 3, 4, 5, 6), "0: 1 2 3 4 5 6");
        merged(old, t(1, 8, 9, 3, 4, 5), t(1, 8, 9, 3, 4, 5), "0: 1 8 9 3 4 5");
        merged(old, t(1, 8, 9, 3, 4, 5), t(1, 8, 7, 3, 4, 5), "1: 1 50001 8 9 50002 8 7 50003 3 4 5");
        // What drops more, or adds the same elsewhere, is not the same.
        merged(old, t(1, 8, 3, 4, 5), t(1, 8, 4, 5), "1: 1 50001 8 3 50002 8 50003 4 5");
        merged(old, t(1, 8, 3, 4, 5), t(1, 8, 8, 3, 4, 5), "1: 1 50001 8 50002 8 8 50003 3 4 5");
        merged(old, t(1, 8, 3, 4, 5), t(1, 8, 2, 3, 4, 5), "1: 1 50001 8 50002 8 2 50003 3 4 5");
    }

    private static void mergeRefusesWhatCantBe() {
        Bench b = new Bench();
        PatchBench x = b.bench;
        b.make(LEAST, t(1, 2, 3, 4, 5, 6, 7), t(8));
        b.make(LEAST, t(1, 2, 3, 4, 5, 6, 7), t(2, 2, 2, 3, 4, 5, 6, 6, 6, 6, 6, 6, 6));
        b.make(LEAST, t(1, 2, 3, 4, 5, 6), t(8));
        b.make(LEAST, t(1, 2, 3, 4, 5, 6, 7), t(2, 2, 3, 4, 5, 6, 6, 6, 6, 6, 6, 6));
        b.fill(2, 5, 6);
        CHECKS.refused("17 lines", Checks.STATE, () -> x.merge(0, 1, 2));
        CHECKS.due("the text is as it was", b.text(2), "5 6");
        CHECKS.refused("other old texts", Checks.STATE, () -> x.merge(0, 2, 2));
        CHECKS.refused("patch", Checks.INDEX, () -> x.merge(4, 2, 2));
        CHECKS.refused("patch below", Checks.INDEX, () -> x.merge(-1, 2, 2));
        CHECKS.refused("other", Checks.INDEX, () -> x.merge(0, 4, 2));
        CHECKS.refused("other below", Checks.INDEX, () -> x.merge(0, -1, 2));
        CHECKS.refused("text", Checks.INDEX, () -> x.merge(0, 2, 4));
        CHECKS.refused("text below", Checks.INDEX, () -> x.merge(0, 2, -1));
        CHECKS.due("16 lines", x.merge(0, 3, 2), 1);
        CHECKS.due("they are there", x.length(2), 16);
    }

    private static void counted(int want, int... lines) {
        Bench b = new Bench();
        b.fill(1, lines);
        CHECKS.due("conflicts of " + b.text(1), b.bench.conflicts(1), want);
    }

    private static void conflictsAreCounted() {
        counted(0);
        counted(0, 1, 2, 3);
        counted(1, 50001, 50002, 50003);
        counted(1, 50001, 50001, 50002, 50003);
        counted(1, 1, 50001, 2, 3, 50002, 4, 50003, 5);
        counted(2, 50001, 50002, 50003, 50003, 50001, 1, 50002, 2, 50003);
        counted(0, 50001, 1, 50002, 2, 50002, 50003);
        counted(0, 50001, 50003, 50002);
        counted(0, 50001, 50002);
        counted(0, 50001);
        counted(0, 50002, 50003, 50001);
        counted(1, 50002, 50001, 50002, 50003, 50001, 50002);
        PatchBench x = new PatchBench();
        CHECKS.refused("text below", Checks.INDEX, () -> x.conflicts(-1));
        CHECKS.refused("text above", Checks.INDEX, () -> x.conflicts(4));
    }

    private static void resolved(int conflict, int side, String want) {
        Bench b = new Bench();
        b.fill(2, 1, 50001, 2, 3, 50002, 4, 50003, 5, 50001, 50001, 50002, 6, 50003);
        int length = b.bench.resolve(2, conflict, side);
        CHECKS.due("resolve " + conflict + " by " + side, b.text(2), want);
        CHECKS.due("its length", length, b.bench.length(2));
    }

    private static void conflictsAreResolved() {
        resolved(0, 1, "1 2 3 5 50001 50001 50002 6 50003");
        resolved(0, 2, "1 4 5 50001 50001 50002 6 50003");
        resolved(0, 3, "1 2 3 4 5 50001 50001 50002 6 50003");
        resolved(1, 1, "1 50001 2 3 50002 4 50003 5 50001");
        resolved(1, 2, "1 50001 2 3 50002 4 50003 5 50001 6");
        resolved(1, 3, "1 50001 2 3 50002 4 50003 5 50001 6");
        Bench b = new Bench();
        b.fill(1, 50001, 2, 50002, 3, 50003, 50001, 4, 50002, 5, 50003);
        CHECKS.due("the second one", b.bench.resolve(1, 1, 2), 6);
        CHECKS.due("the first one then", b.bench.resolve(1, 0, 3), 3);
        CHECKS.due("what comes of it", b.text(1), "2 3 5");
    }

    private static void resolveRefusesWhatIsNotThere() {
        Bench b = new Bench();
        b.fill(2, 50001, 50002, 50003);
        PatchBench x = b.bench;
        CHECKS.refused("text below", Checks.INDEX, () -> x.resolve(-1, 0, 0));
        CHECKS.refused("text above", Checks.INDEX, () -> x.resolve(4, 0, 0));
        CHECKS.refused("conflict below", Checks.INDEX, () -> x.resolve(2, -1, 0));
        CHECKS.refused("conflict above", Checks.INDEX, () -> x.resolve(2, 1, 0));
        CHECKS.refused("no conflict", Checks.INDEX, () -> x.resolve(0, 0, 1));
        CHECKS.refused("side below", Checks.ARGUMENT, () -> x.resolve(2, 0, 0));
        CHECKS.refused("side above", Checks.ARGUMENT, () -> x.resolve(2, 0, 4));
        CHECKS.due("nothing changed", b.text(2), "50001 50002 50003");
        CHECKS.due("then it is empty", x.resolve(2, 0, 3), 0);
    }
}
