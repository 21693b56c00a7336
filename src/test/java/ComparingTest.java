/** Promises 8 to 10: comparing. */
public final class ComparingTest {
    private static final Checks CHECKS = new Checks("ComparingTest");
    private static final int LEAST = PatchBench.LEAST, UNIQUE = PatchBench.UNIQUE, RARE = PatchBench.RARE;

    private ComparingTest() {
    }

    public static void main(String[] args) {
        leastPairsAsManyAsCanBe();
        uniqueGoesByLinesThatAreThereOnce();
        uniqueTakesTheLowestOfTheLongestRows();
        rareGoesByTheRarestLine();
        rareLooksAtLinesThatComeThreeTimesAtMost();
        emptyAndEqualTexts();
        keptCountsPairs();
        whatIsNotThereIsRefused();
        CHECKS.end();
    }

    private static void pairs(int way, int[] first, int[] second, String want) {
        Bench b = new Bench();
        b.fill(2, first);
        b.fill(1, second);
        CHECKS.due("pairs by " + way + " of " + b.text(2) + " with " + b.text(1), b.compared(2, 1, way), want);
        int count = 0;
        for (String partner : want.split(" ")) {
            count += partner.equals("-1") || partner.isEmpty() ? 0 : 1;
        }
        CHECKS.due("kept by " + way + " of " + b.text(2) + " with " + b.text(1), b.bench.kept(2, 1, way), count);
    }

    private static int[] t(int... lines) {
        return lines;
    }

    private static void leastPairsAsManyAsCanBe() {
        pairs(LEAST, t(1, 2, 3), t(2, 3, 1), "-1 0 1");
        pairs(LEAST, t(1, 2), t(2, 1), "-1 0");
        pairs(LEAST, t(1, 2), t(3, 1), "1 -1");
        pairs(LEAST, t(1, 1, 2), t(1, 2), "0 -1 1");
        pairs(LEAST, t(9, 1, 8, 2), t(7, 2, 1, 6), "-1 -1 -1 1");
        pairs(LEAST, t(5, 1, 1, 2, 8), t(6, 2, 1, 1, 7), "-1 2 3 -1 -1");
        pairs(LEAST, t(0, 1, 0, 10001), t(10001, 0, 1, 0), "1 2 3 -1");
        pairs(LEAST, t(1, 2, 3, 1, 2, 2, 1), t(3, 2, 1, 2, 1, 3), "-1 -1 0 -1 1 3 4");
    }

    private static void uniqueGoesByLinesThatAreThereOnce() {
        pairs(UNIQUE, t(5, 1, 1, 2, 8), t(6, 2, 1, 1, 7), "-1 -1 -1 1 -1");
        pairs(UNIQUE, t(1, 2, 1), t(1, 3, 1), "0 -1 2");
        pairs(UNIQUE, t(7, 7, 8), t(7, 8), "0 -1 1");
        pairs(UNIQUE, t(9, 1, 5, 1, 8), t(7, 1, 5, 1, 6), "-1 1 2 3 -1");
        pairs(UNIQUE, t(3, 1, 4, 5, 1, 1), t(8, 1, 9, 5, 7, 7), "-1 1 -1 3 -1 -1");
        pairs(UNIQUE, t(4, 1, 1, 5), t(6, 1, 7), "-1 -1 1 -1");
        pairs(UNIQUE, t(4, 1, 5), t(6, 1, 1, 7), "-1 1 -1");
        pairs(UNIQUE, t(1, 1, 1), t(1, 1), "0 1 -1");
    }

    private static void uniqueTakesTheLowestOfTheLongestRows() {
        pairs(UNIQUE, t(9, 1, 8, 2), t(7, 2, 1, 6), "-1 2 -1 -1");
        pairs(UNIQUE, t(9, 1, 2, 3, 8), t(7, 3, 1, 2, 6), "-1 2 3 -1 -1");
        pairs(UNIQUE, t(9, 3, 1, 2, 8), t(7, 1, 2, 3, 6), "-1 -1 1 2 -1");
        pairs(UNIQUE, t(9, 1, 2, 3, 4, 8), t(7, 3, 4, 1, 2, 6), "-1 3 4 -1 -1 -1");
        pairs(UNIQUE, t(9, 1, 2, 3, 8), t(7, 1, 3, 2, 6), "-1 1 3 -1 -1");
        pairs(UNIQUE, t(9, 1, 2, 3, 4, 8), t(7, 1, 4, 2, 3, 6), "-1 1 3 4 -1 -1");
        pairs(UNIQUE, t(4, 1, 2, 3), t(1, 2, 3, 4), "-1 0 1 2");
        pairs(UNIQUE, t(1, 2, 3, 4), t(4, 1, 2, 3), "1 2 3 -1");
        pairs(UNIQUE, t(1, 2, 3), t(3, 2, 1), "2 -1 -1");
    }

    private static void rareGoesByTheRarestLine() {
        pairs(RARE, t(9, 1, 2, 1, 8), t(7, 2, 1, 6), "-1 -1 1 2 -1");
        pairs(RARE, t(9, 1, 2, 8), t(7, 2, 1, 6), "-1 2 -1 -1");
        pairs(RARE, t(9, 5, 8), t(7, 5, 6, 5, 4), "-1 1 -1");
        pairs(RARE, t(9, 1, 1, 2, 8), t(7, 1, 1, 2, 6), "-1 1 2 3 -1");
        pairs(RARE, t(9, 1, 1, 2, 8), t(7, 1, 5, 1, 2), "-1 1 3 4 -1");
        pairs(RARE, t(1, 2, 1), t(1, 3, 1), "0 -1 2");
        pairs(RARE, t(9, 3, 1, 1, 8), t(7, 1, 1, 3, 1, 6), "-1 3 4 -1 -1");
        // Ahead of the pairs and behind them it goes on by RARE.
        pairs(RARE, t(9, 1, 1, 1, 5, 2, 2, 2, 8), t(7, 1, 1, 6, 5, 7, 2, 2, 6), "-1 1 2 -1 4 6 7 -1 -1");
        pairs(LEAST, t(9, 1, 1, 1, 5, 2, 2, 2, 8), t(7, 1, 1, 6, 5, 7, 2, 2, 6), "-1 -1 1 2 4 -1 6 7 -1");
    }

    private static void rareLooksAtLinesThatComeThreeTimesAtMost() {
        pairs(RARE, t(9, 1, 1, 1, 8), t(7, 1, 1, 6), "-1 1 2 -1 -1");
        pairs(LEAST, t(9, 1, 1, 1, 8), t(7, 1, 1, 6), "-1 -1 1 2 -1");
        pairs(RARE, t(9, 1, 1, 1, 1, 8), t(7, 1, 1, 6), "-1 -1 -1 1 2 -1");
        pairs(RARE, t(9, 1, 8), t(7, 1, 1, 1, 1, 6), "-1 1 -1");
        pairs(RARE, t(9, 3, 8), t(7, 1, 6), "-1 -1 -1");
    }

    private static void emptyAndEqualTexts() {
        for (int way = LEAST; way <= RARE; way++) {
            pairs(way, t(), t(), "");
            pairs(way, t(1, 2), t(), "-1 -1");
            pairs(way, t(), t(1, 2), "");
            pairs(way, t(1, 0, 50001, 0), t(1, 0, 50001, 0), "0 1 2 3");
            pairs(way, t(1, 1, 1, 1, 1, 1, 1, 1, 1, 1, 1, 1, 1, 1, 1, 1),
                    t(2, 2, 2, 2, 2, 2, 2, 2, 2, 2, 2, 2, 2, 2, 2, 2),
                    "-1 -1 -1 -1 -1 -1 -1 -1 -1 -1 -1 -1 -1 -1 -1 -1");
        }
        Bench b = new Bench();
        b.fill(3, 4, 5, 4);
        CHECKS.due("a text with itself", b.compared(3, 3, RARE), "0 1 2");
    }

    private static void keptCountsPairs() {
        Bench b = new Bench();
        b.fill(0, 5, 1, 1, 2, 8);
        b.fill(1, 6, 2, 1, 1, 7);
        CHECKS.due("kept by LEAST", b.bench.kept(0, 1, LEAST), 2);
        CHECKS.due("kept by UNIQUE", b.bench.kept(0, 1, UNIQUE), 1);
        CHECKS.due("kept by RARE", b.bench.kept(0, 1, RARE), 1);
        CHECKS.due("by the table", b.bench.keptByTable(0, 1), 2);
        CHECKS.due("by the table, the other way round", b.bench.keptByTable(1, 0), 2);
        CHECKS.due("by the table, with itself", b.bench.keptByTable(1, 1), 5);
        CHECKS.due("by the table, with an empty one", b.bench.keptByTable(1, 2), 0);
    }

    private static void whatIsNotThereIsRefused() {
        Bench b = new Bench();
        b.fill(0, 1, 2);
        PatchBench x = b.bench;
        CHECKS.refused("pairOf text below", Checks.INDEX, () -> x.pairOf(-1, 0, 9, 0));
        CHECKS.refused("pairOf text above", Checks.INDEX, () -> x.pairOf(4, 0, 9, 0));
        CHECKS.refused("pairOf other below", Checks.INDEX, () -> x.pairOf(0, -1, 9, 0));
        CHECKS.refused("pairOf other above", Checks.INDEX, () -> x.pairOf(0, 4, 9, 0));
        CHECKS.refused("pairOf place below", Checks.INDEX, () -> x.pairOf(0, 1, 9, -1));
        CHECKS.refused("pairOf place behind", Checks.INDEX, () -> x.pairOf(0, 1, 9, 2));
        CHECKS.refused("pairOf in an empty text", Checks.INDEX, () -> x.pairOf(1, 0, 0, 0));
        CHECKS.refused("pairOf way below", Checks.ARGUMENT, () -> x.pairOf(0, 1, -1, 0));
        CHECKS.refused("pairOf way above", Checks.ARGUMENT, () -> x.pairOf(0, 1, 3, 1));
        CHECKS.refused("kept text", Checks.INDEX, () -> x.kept(4, 0, 9));
        CHECKS.refused("kept other", Checks.INDEX, () -> x.kept(0, -1, 9));
        CHECKS.refused("kept way below", Checks.ARGUMENT, () -> x.kept(0, 1, -1));
        CHECKS.refused("kept way above", Checks.ARGUMENT, () -> x.kept(0, 1, 3));
        CHECKS.refused("keptByTable text", Checks.INDEX, () -> x.keptByTable(-1, 0));
        CHECKS.refused("keptByTable other", Checks.INDEX, () -> x.keptByTable(0, 4));
    }
}
