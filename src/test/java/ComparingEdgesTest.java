import java.util.Arrays;

/** Promises 8 to 10: each sentence of the document that names a boundary of comparing. */
public final class ComparingEdgesTest {
    private static final Checks CHECKS = new Checks("ComparingEdgesTest");
    private static final int LEAST = PatchBench.LEAST, UNIQUE = PatchBench.UNIQUE, RARE = PatchBench.RARE;

    private ComparingEdgesTest() {
    }

    public static void main(String[] args) {
        emptyAndFullTexts();
        theFirstAndTheLastLine();
        leastGoesFromTheBeginnings();
        leastPassesTheFirstTextIfItCostsNothing();
        beginningsComeAheadOfEnds();
        linesThatAreThereJustOnce();
        onceIsCountedInWhatIsLeft();
        withoutSuchLinesItIsLeast();
        leastStaysInWhatIsLeft();
        theLowestChoiceOfTheGreatestNumber();
        stretchesOfUniqueAreDoneByUnique();
        rareLinesComeThreeTimesAtMost();
        rareIsCountedInWhatIsLeft();
        theRarestLineIsInBothTexts();
        rareLinesGoOnAheadAndBehind();
        stretchesOfRareAreDoneByRare();
        theTableCountsFromNoneToAll();
        CHECKS.end();
    }

    private static int[] t(int... lines) {
        return lines;
    }

    private static int[] full(int line) {
        int[] lines = new int[16];
        Arrays.fill(lines, line);
        return lines;
    }

    private static final int[] DISTINCT = {1, 2, 3, 4, 5, 6, 7, 8, 9, 11, 12, 13, 14, 15, 16, 17};

    private static int[] reversed(int[] lines) {
        int[] turned = new int[lines.length];
        for (int i = 0; i < lines.length; i++) {
            turned[i] = lines[lines.length - 1 - i];
        }
        return turned;
    }

    private static void pairs(int way, int[] first, int[] second, String want) {
        Bench b = new Bench();
        b.fill(0, first);
        b.fill(3, second);
        String what = " by " + way + " of " + b.text(0) + " with " + b.text(3);
        CHECKS.due("pairs" + what, b.compared(0, 3, way), want);
        int count = 0;
        for (String partner : want.split(" ")) {
            count += partner.equals("-1") || partner.isEmpty() ? 0 : 1;
        }
        CHECKS.due("kept" + what, b.bench.kept(0, 3, way), count);
    }

    private static void emptyAndFullTexts() {
        CHECKS.says("It is done for a stretch of the first text and one of the second text, at first all of both");
        for (int way = LEAST; way <= RARE; way++) {
            pairs(way, t(), t(), "");
            pairs(way, t(), DISTINCT, "");
            pairs(way, DISTINCT, t(), "-1 -1 -1 -1 -1 -1 -1 -1 -1 -1 -1 -1 -1 -1 -1 -1");
            pairs(way, DISTINCT, DISTINCT, "0 1 2 3 4 5 6 7 8 9 10 11 12 13 14 15");
            pairs(way, full(0), full(0), "0 1 2 3 4 5 6 7 8 9 10 11 12 13 14 15");
            pairs(way, full(1), full(2), "-1 -1 -1 -1 -1 -1 -1 -1 -1 -1 -1 -1 -1 -1 -1 -1");
            pairs(way, t(1), t(1), "0");
            pairs(way, t(1), t(2), "-1");
        }
        CHECKS.says("NONE if it is not paired");
        pairs(LEAST, DISTINCT, reversed(DISTINCT), "-1 -1 -1 -1 -1 -1 -1 -1 -1 -1 -1 -1 -1 -1 -1 0");
        pairs(UNIQUE, DISTINCT, reversed(DISTINCT), "15 -1 -1 -1 -1 -1 -1 -1 -1 -1 -1 -1 -1 -1 -1 -1");
        pairs(RARE, DISTINCT, reversed(DISTINCT), "15 -1 -1 -1 -1 -1 -1 -1 -1 -1 -1 -1 -1 -1 -1 -1");
    }

    private static void theFirstAndTheLastLine() {
        CHECKS.says("Returns with which line of a second text a line of a first one is paired when they are compared.");
        for (int way = LEAST; way <= RARE; way++) {
            pairs(way, t(1, 2, 3), t(1), "0 -1 -1");
            pairs(way, t(1, 2, 3), t(3), "-1 -1 0");
            pairs(way, t(1), t(1, 2, 3), "0");
            pairs(way, t(3), t(1, 2, 3), "2");
            pairs(way, t(2), t(1, 2, 3), "1");
        }
    }

    private static void leastGoesFromTheBeginnings() {
        CHECKS.says("It goes from the beginnings of both stretches: if the lines there are the same, they are paired");
        pairs(LEAST, t(1, 1), t(1), "0 -1");
        pairs(LEAST, t(1), t(1, 1), "0");
        pairs(LEAST, t(2, 1, 1), t(1, 2), "-1 0 -1");
        pairs(LEAST, full(1), t(1), "0 -1 -1 -1 -1 -1 -1 -1 -1 -1 -1 -1 -1 -1 -1 -1");
        pairs(LEAST, t(1), full(1), "0");
        pairs(LEAST, t(1, 3, 1), t(1, 2, 1, 1), "0 -1 2");
    }

    private static void leastPassesTheFirstTextIfItCostsNothing() {
        CHECKS.says("otherwise, if just as many pairs can be had without the line of the first text, it goes on behind "
                + "that, otherwise behind that of the second one");
        pairs(LEAST, t(1, 2), t(2, 1), "-1 0");
        pairs(LEAST, t(2, 1), t(1, 2), "-1 0");
        pairs(LEAST, t(1, 2, 3), t(3, 1, 2), "1 2 -1");
        pairs(LEAST, t(3, 1, 2), t(1, 2, 3), "-1 0 1");
        pairs(LEAST, t(1, 2, 3, 4), t(3, 4, 1, 2), "-1 -1 0 1");
        pairs(LEAST, t(1, 2, 1), t(2, 1, 2), "-1 0 1");
    }

    private static void beginningsComeAheadOfEnds() {
        CHECKS.says("first the lines at the beginnings of both stretches are paired, as long as they are the same, "
                + "then, in what is left, those at the ends, likewise.");
        for (int way = UNIQUE; way <= RARE; way++) {
            pairs(way, t(1), t(1, 1), "0");
            pairs(way, t(1, 1), t(1), "0 -1");
            pairs(way, t(1, 1), t(1, 1, 1), "0 1");
            pairs(way, t(1, 1, 1), t(1, 1), "0 1 -1");
            pairs(way, t(1, 2, 1), t(1, 1), "0 -1 1");
            pairs(way, t(1, 1), t(1, 2, 1), "0 2");
            pairs(way, t(2, 1, 1), t(1, 1, 1, 1), "-1 2 3");
            pairs(way, t(1, 1, 1, 1), t(2, 1, 1), "-1 -1 1 2");
            pairs(way, full(1), t(1, 1, 2, 1), "0 1 -1 -1 -1 -1 -1 -1 -1 -1 -1 -1 -1 -1 -1 3");
        }
    }

    private static void linesThatAreThereJustOnce() {
        CHECKS.says("the lines are looked at that are there just once in each of both");
        pairs(UNIQUE, t(9, 1, 8, 2), t(7, 2, 1, 6), "-1 2 -1 -1");
        pairs(UNIQUE, t(9, 1, 8, 2, 1), t(7, 2, 1, 6), "-1 -1 -1 1 2");
        pairs(UNIQUE, t(9, 1, 1, 8, 2), t(7, 2, 1, 6), "-1 -1 -1 -1 1");
        pairs(UNIQUE, t(9, 1, 8, 2), t(7, 2, 1, 1, 6), "-1 -1 -1 1");
        pairs(UNIQUE, t(9, 1, 8, 2), t(1, 7, 2, 1, 6), "-1 0 -1 2");
        pairs(UNIQUE, t(9, 1, 8, 2), t(7, 2, 6), "-1 -1 -1 1");
    }

    private static void onceIsCountedInWhatIsLeft() {
        CHECKS.says("In what is left then, the lines are looked at that are there just once in each of both.");
        // The line 1 is there once more at the beginnings, or at the ends, which are paired already.
        pairs(UNIQUE, t(1, 9, 1, 8, 2), t(1, 7, 2, 1, 6), "0 -1 3 -1 -1");
        pairs(UNIQUE, t(9, 1, 8, 2, 1), t(7, 2, 1, 6, 1), "-1 2 -1 -1 4");
        pairs(UNIQUE, t(1, 1, 9, 1, 8, 2, 1, 1), t(1, 1, 7, 2, 1, 6, 1, 1), "0 1 -1 4 -1 -1 6 7");
        pairs(RARE, t(1, 9, 1, 8, 2), t(1, 7, 2, 1, 6), "0 -1 3 -1 -1");
    }

    private static void withoutSuchLinesItIsLeast() {
        CHECKS.says("If there are none, what is left is done by LEAST.");
        pairs(UNIQUE, t(9, 1, 1, 8, 2, 2), t(7, 2, 2, 1, 1, 6), "-1 -1 -1 -1 1 2");
        pairs(LEAST, t(9, 1, 1, 8, 2, 2), t(7, 2, 2, 1, 1, 6), "-1 -1 -1 -1 1 2");
        pairs(UNIQUE, t(5, 9, 1, 1, 8, 5), t(5, 7, 1, 6, 5), "0 -1 -1 2 -1 4");
        pairs(UNIQUE, t(9, 8), t(7, 6), "-1 -1");
        pairs(UNIQUE, t(9, 1, 8), t(7, 1, 1, 6), "-1 1 -1");
    }

    private static void leastStaysInWhatIsLeft() {
        CHECKS.says("what is left is done by LEAST");
        // The line at the ends, which is paired already, is in what is left of the other text once more.
        for (int way = UNIQUE; way <= RARE; way++) {
            pairs(way, t(4), t(1, 4, 2, 4), "3");
            pairs(way, t(1, 4, 2, 4), t(4), "-1 -1 -1 0");
            pairs(way, t(4), t(4, 1, 4), "0");
            pairs(way, t(9, 1, 8, 4), t(7, 4, 6, 4), "-1 -1 -1 3");
            pairs(way, t(7, 4, 6, 4), t(9, 1, 8, 4), "-1 -1 -1 3");
            pairs(way, t(4, 9, 1), t(4, 7, 4), "0 -1 -1");
        }
        pairs(UNIQUE, t(3, 1, 1, 2, 5), t(4, 2, 2, 1, 6, 5), "-1 -1 -1 1 5");
    }

    private static void theLowestChoiceOfTheGreatestNumber() {
        CHECKS.says("Otherwise the greatest number of them is paired");
        pairs(UNIQUE, t(9, 1, 2, 3, 8), t(7, 3, 1, 2, 6), "-1 2 3 -1 -1");
        pairs(UNIQUE, t(9, 3, 1, 2, 8), t(7, 1, 2, 3, 6), "-1 -1 1 2 -1");
        pairs(UNIQUE, t(1, 2, 3), t(3, 1, 2), "1 2 -1");
        pairs(UNIQUE, t(3, 1, 2), t(1, 2, 3), "-1 0 1");
        // Behind the first pair the line 1 would be there just once too, but that is looked at for all pairs at once.
        pairs(UNIQUE, t(31, 1, 51, 9, 1, 8, 52, 32), t(41, 51, 7, 52, 6, 1, 42), "-1 -1 1 -1 -1 -1 3 -1");
        CHECKS.says("of several such choices the one of which the first place in the first text is lower, then the "
                + "second one, and so on");
        pairs(UNIQUE, t(1, 2), t(2, 1), "1 -1");
        pairs(UNIQUE, t(9, 1, 2, 3, 8), t(7, 1, 3, 2, 6), "-1 1 3 -1 -1");
        pairs(UNIQUE, t(9, 1, 2, 3, 8), t(7, 2, 1, 3, 6), "-1 2 -1 3 -1");
        pairs(UNIQUE, t(9, 1, 2, 3, 4, 8), t(7, 1, 2, 4, 3, 6), "-1 1 2 4 -1 -1");
        pairs(UNIQUE, t(9, 1, 2, 3, 4, 8), t(7, 3, 4, 1, 2, 6), "-1 3 4 -1 -1 -1");
        pairs(UNIQUE, t(1, 2, 3, 4), t(2, 1, 4, 3), "1 -1 3 -1");
    }

    private static void stretchesOfUniqueAreDoneByUnique() {
        CHECKS.says("Each of the stretches ahead of, between and behind these pairs is done by UNIQUE.");
        // 1 and 2 are there twice in the whole text, but once in the stretch; LEAST would pair the 2 there.
        pairs(UNIQUE, t(9, 1, 8, 2, 5, 1, 2, 3), t(7, 2, 1, 6, 5, 4), "-1 2 -1 -1 4 -1 -1 -1");
        pairs(UNIQUE, t(3, 1, 2, 5, 9, 1, 8, 2), t(4, 5, 7, 2, 1, 6), "-1 -1 -1 1 -1 4 -1 -1");
        pairs(UNIQUE, t(31, 51, 9, 1, 8, 2, 52, 1, 2, 32), t(41, 51, 7, 2, 1, 6, 52, 42),
                "-1 1 -1 4 -1 -1 6 -1 -1 -1");
        // A stretch begins and ends beside the pairs: 4 and 2 are paired as its end.
        pairs(UNIQUE, t(9, 51, 3, 4, 2, 52, 3, 8), t(7, 51, 1, 3, 4, 2, 4, 2, 52, 6), "-1 1 3 6 7 8 -1 -1");
        pairs(UNIQUE, t(9, 51, 4, 3, 52, 3, 8), t(7, 51, 4, 4, 3, 4, 1, 52, 6), "-1 1 2 4 7 -1 -1");
    }

    private static void rareLinesComeThreeTimesAtMost() {
        CHECKS.says("and at most 3 times in the first one");
        pairs(RARE, t(9, 1, 1, 8), t(7, 1, 6), "-1 1 -1 -1");
        pairs(RARE, t(9, 1, 1, 1, 8), t(7, 1, 1, 6), "-1 1 2 -1 -1");
        pairs(RARE, t(9, 1, 1, 1, 1, 8), t(7, 1, 1, 6), "-1 -1 -1 1 2 -1");
        pairs(RARE, t(9, 1, 8, 1, 5, 1, 4), t(7, 1, 6), "-1 1 -1 -1 -1 -1 -1");
        pairs(RARE, t(9, 1, 8, 1, 5, 1, 4, 1, 3), t(7, 1, 6), "-1 -1 -1 -1 -1 -1 -1 1 -1");
        // How often it comes in the second text does not matter.
        pairs(RARE, t(9, 1, 8, 2), t(7, 2, 1, 1, 1, 1, 6), "-1 2 -1 -1");
        CHECKS.says("If there is none, what is left is done by LEAST.");
        pairs(RARE, t(9, 1, 1, 1, 1, 8, 2, 2, 2, 2), t(7, 2, 1, 6), "-1 -1 -1 -1 -1 -1 -1 -1 -1 1");
        pairs(RARE, t(9, 8), t(7, 6), "-1 -1");
    }

    private static void rareIsCountedInWhatIsLeft() {
        CHECKS.says("In what is left then, of the lines of the first text that are also in the second one, and at most "
                + "3 times in the first one, that with the fewest places in the first one is taken");
        // With the beginnings, or the ends, the line 1 would be there four times.
        pairs(RARE, t(1, 9, 1, 1, 1, 8), t(1, 7, 1, 1, 6), "0 -1 2 3 -1 -1");
        pairs(RARE, t(9, 1, 1, 1, 8, 1), t(7, 1, 1, 6, 1), "-1 1 2 -1 -1 4");
        // In the second text it is there only at the beginning, or at the end, which is paired already.
        pairs(RARE, t(1, 9, 1, 8, 2, 2), t(1, 7, 2, 6), "0 -1 -1 -1 2 -1");
        pairs(RARE, t(9, 1, 8, 2, 2, 1), t(7, 2, 6, 1), "-1 -1 -1 1 -1 3");
        // The line 4 is there at the ends of both, and in what is left of the second text alone.
        pairs(RARE, t(9, 1, 8, 4), t(4, 1, 6, 4), "-1 1 -1 3");
    }

    private static void theRarestLineIsInBothTexts() {
        CHECKS.says("of several the one with the lowest place");
        pairs(RARE, t(9, 1, 2, 8), t(7, 2, 1, 6), "-1 2 -1 -1");
        pairs(RARE, t(9, 2, 1, 8), t(7, 1, 2, 6), "-1 2 -1 -1");
        pairs(RARE, t(9, 1, 2, 1, 8), t(7, 2, 1, 6), "-1 -1 1 2 -1");
        pairs(RARE, t(9, 1, 1, 3, 2, 2, 8), t(7, 2, 1, 6), "-1 2 -1 -1 -1 -1 -1");
        CHECKS.says("its lowest place in the first text is paired with its lowest place in the second one");
        pairs(RARE, t(9, 1, 8), t(7, 1, 6, 1, 5), "-1 1 -1");
        pairs(RARE, t(9, 1, 8, 1, 5), t(7, 1, 6), "-1 1 -1 -1 -1");
        pairs(RARE, t(9, 1, 8, 1, 5, 1, 4), t(7, 1, 6, 1, 3, 1, 2), "-1 1 -1 3 -1 5 -1");
    }

    private static void rareLinesGoOnAheadAndBehind() {
        CHECKS.says("then the lines right ahead of both, as long as they are the same, then those right behind both");
        pairs(RARE, t(1, 1, 5, 8), t(9, 1, 1, 5, 7), "1 2 3 -1");
        pairs(RARE, t(9, 1, 1, 5, 8), t(1, 1, 5, 7), "-1 0 1 2 -1");
        pairs(RARE, t(8, 5, 1, 1), t(7, 5, 1, 1, 9), "-1 1 2 3");
        pairs(RARE, t(8, 5, 1, 1, 9), t(7, 5, 1, 1), "-1 1 2 3 -1");
        pairs(RARE, t(9, 1, 5, 1, 8), t(7, 2, 5, 1, 6), "-1 -1 2 3 -1");
        pairs(RARE, t(9, 1, 5, 1, 8), t(7, 1, 5, 2, 6), "-1 1 2 -1 -1");
        pairs(RARE, t(9, 1, 1, 5, 1, 1, 8), t(7, 1, 5, 1, 6), "-1 -1 1 2 3 -1 -1");
    }

    private static void stretchesOfRareAreDoneByRare() {
        CHECKS.says("What is ahead of these pairs, and what is behind them, is done by RARE.");
        pairs(RARE, t(9, 1, 1, 1, 5, 8), t(7, 1, 1, 6, 5, 4), "-1 1 2 -1 4 -1");
        pairs(RARE, t(8, 5, 9, 1, 1, 1, 3), t(4, 5, 7, 1, 1, 6), "-1 1 -1 3 4 -1 -1");
        // Ahead of the pairs it begins with the beginnings; behind them it ends with the ends.
        pairs(RARE, t(1, 9, 1, 1, 1, 5, 8), t(1, 7, 1, 1, 6, 5, 4), "0 -1 2 3 -1 5 -1");
        pairs(RARE, t(8, 5, 9, 1, 1, 1, 3, 1), t(4, 5, 7, 1, 1, 6, 1), "-1 1 -1 3 4 -1 -1 6");
    }

    private static void byTable(int[] first, int[] second, int want) {
        Bench b = new Bench();
        b.fill(1, first);
        b.fill(2, second);
        String what = "by the table, " + b.text(1) + " and " + b.text(2);
        CHECKS.due(what, b.bench.keptByTable(1, 2), want);
        CHECKS.due(what + ", the other way round", b.bench.keptByTable(2, 1), want);
        CHECKS.due(what + ", kept by LEAST", b.bench.kept(1, 2, LEAST), want);
    }

    private static void theTableCountsFromNoneToAll() {
        CHECKS.says("Returns how many lines of two texts can be paired at the most, by a full table over both from "
                + "their ends.");
        byTable(t(), t(), 0);
        byTable(t(), DISTINCT, 0);
        byTable(DISTINCT, DISTINCT, 16);
        byTable(full(0), full(0), 16);
        byTable(full(1), full(2), 0);
        byTable(full(1), t(1), 1);
        byTable(DISTINCT, reversed(DISTINCT), 1);
        byTable(t(1), t(1), 1);
        byTable(t(1), t(2), 0);
        byTable(t(1, 2, 3, 4), t(2, 4, 1, 3), 2);
        Bench b = new Bench();
        b.fill(0, DISTINCT);
        CHECKS.due("a full text with itself", b.bench.keptByTable(0, 0), 16);
        CHECKS.due("an empty text with itself", b.bench.keptByTable(1, 1), 0);
    }
}
