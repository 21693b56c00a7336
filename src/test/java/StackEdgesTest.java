import java.util.Arrays;

/** Promises 30 to 44: each sentence of the document that names a boundary of the stack. */
public final class StackEdgesTest {
    private static final Checks CHECKS = new Checks("StackEdgesTest");
    private static final int LEAST = PatchBench.LEAST, UNIQUE = PatchBench.UNIQUE, RARE = PatchBench.RARE;
    private static final int[] DISTINCT = {1, 2, 3, 4, 5, 6, 7, 8, 9, 11, 12, 13, 14, 15, 16, 17};

    private StackEdgesTest() {
    }

    public static void main(String[] args) {
        theBaseIsEmptyAtFirst();
        aBaseFromEmptyToFull();
        noOtherBaseUnderPatches();
        thereAreUpToFivePatches();
        aPatchNeedsTheTextOfTheStack();
        namesAreKept();
        patchesArePoppedToTheLast();
        patchesAreTakenFromTheLowestToTheLast();
        neighboursAreSwappedFromTheLowestOn();
        theOrderChangesNoText();
        sixteenLinesBetweenNeighbours();
        neighboursAreFoldedFromTheLowestOn();
        addedLinesAreEditedFromTheFirstToTheLast();
        editsGoUpAndNotDown();
        pairedLinesAreNotEdited();
        theLastPatchIsRefreshed();
        refreshedByEachWay();
        theTopIsReadFromTheFirstToBehindTheLast();
        fromNoneToAllAreNeeded();
        theGroupIsMovedPastFromItsLowestOn();
        neededPatchesOfOneStackAndThenAnother();
        trialsHaveMoreThanSixteenLines();
        fromOneOrderToAll();
        ordersOfOneStackAndThenAnother();
        ordersOfFiveAreRefused();
        linesOfTheBase();
        linesOfPatches();
        movedLinesAtTheEdges();
        formattedLinesAtTheEdges();
        CHECKS.end();
    }

    private static int[] t(int... lines) {
        return lines;
    }

    private static int[] full(int line) {
        int[] lines = new int[16];
        Arrays.fill(lines, line);
        return lines;
    }

    /** Five patches on a text of five lines: each one changes another line. */
    private static Bench five() {
        return Bench.stacked(t(1, 0, 2, 0, 3, 0, 4, 0, 5), t(11, 0, 2, 0, 3, 0, 4, 0, 5), t(11, 0, 12, 0, 3, 0, 4, 0, 5),
                t(11, 0, 12, 0, 13, 0, 4, 0, 5), t(11, 0, 12, 0, 13, 0, 14, 0, 5), t(11, 0, 12, 0, 13, 0, 14, 0, 15));
    }

    /** The texts from the top down to the base, each as it is when the patches on it have been popped. */
    private static String downward(Bench b) {
        StringBuilder all = new StringBuilder(b.top());
        while (b.bench.height() > 0) {
            b.bench.pop();
            all.append(" | ").append(b.top());
        }
        return all.toString();
    }

    private static void theBaseIsEmptyAtFirst() {
        CHECKS.says("The stack has a base, a text, empty at first");
        Bench b = new Bench();
        CHECKS.due("height", b.bench.height(), 0);
        CHECKS.due("the text", b.bench.top(0), PatchBench.NONE);
        CHECKS.due("orders", b.bench.orders(), 1);
        CHECKS.refused("a line to blame", Checks.INDEX, () -> b.bench.blame(0));
        CHECKS.refused("where a line began", Checks.INDEX, () -> b.bench.began(0));
        b.make(LEAST, t(1), t());
        b.make(LEAST, t(), t(1));
        CHECKS.refused("a patch of one line", Checks.STATE, () -> b.bench.push(0));
        CHECKS.due("a patch of no lines", b.bench.push(1), 0);
        CHECKS.due("the text then", b.top(), "1");
    }

    private static void aBaseFromEmptyToFull() {
        CHECKS.says("Makes a text the base.");
        Bench b = new Bench();
        for (int text = 0; text <= 3; text++) {
            b.fill(text, DISTINCT);
            CHECKS.due("a full text", b.bench.setBase(text), 16);
            CHECKS.due("its last line", b.bench.top(15), 17);
            CHECKS.due("behind it", b.bench.top(16), PatchBench.NONE);
            b.fill(text);
            CHECKS.due("the base is as it was", b.bench.top(0), 1);
            CHECKS.due("an empty text", b.bench.setBase(text), 0);
            CHECKS.due("no line", b.bench.top(0), PatchBench.NONE);
        }
        CHECKS.refused("text -1", Checks.INDEX, () -> b.bench.setBase(-1));
        CHECKS.refused("text 4", Checks.INDEX, () -> b.bench.setBase(4));
    }

    private static void noOtherBaseUnderPatches() {
        CHECKS.says("if the stack has patches");
        Bench b = five();
        for (int height = 5; height > 0; height--) {
            CHECKS.refused("with " + height, Checks.STATE, () -> b.bench.setBase(0));
            b.bench.pop();
        }
        CHECKS.due("the base is as it was", b.top(), "1 0 2 0 3 0 4 0 5");
        b.fill(1, 6);
        CHECKS.due("with none", b.bench.setBase(1), 1);
        CHECKS.due("the base", b.top(), "6");
    }

    private static void thereAreUpToFivePatches() {
        CHECKS.says("and up to 5 patches, one on the other, counted from 0");
        Bench b = new Bench();
        b.make(LEAST, t(), t());
        for (int k = 0; k < 5; k++) {
            int behind = k;
            CHECKS.due("height", b.bench.height(), k);
            CHECKS.refused("the name behind the last", Checks.INDEX, () -> b.bench.nameAt(behind));
            CHECKS.due("push", b.bench.push(0), k);
            CHECKS.due("its name", b.bench.nameAt(k), k);
        }
        CHECKS.refused("the sixth", Checks.STATE, () -> b.bench.push(0));
        CHECKS.due("five are there", b.bench.height(), 5);
        CHECKS.refused("name 5", Checks.INDEX, () -> b.bench.nameAt(5));
        CHECKS.refused("name -1", Checks.INDEX, () -> b.bench.nameAt(-1));
        CHECKS.due("pop makes room", b.bench.pop(), 4);
        b.bench.push(0);
        CHECKS.due("five again", b.bench.height(), 5);
        CHECKS.says("The text of the stack is the new text of the last one, or the base.");
        CHECKS.due("from the fifth to the base", downward(five()), "11 0 12 0 13 0 14 0 15 | 11 0 12 0 13 0 14 0 5 | "
                + "11 0 12 0 13 0 4 0 5 | 11 0 12 0 3 0 4 0 5 | 11 0 2 0 3 0 4 0 5 | 1 0 2 0 3 0 4 0 5");
    }

    private static void aPatchNeedsTheTextOfTheStack() {
        CHECKS.says("or the old text of the patch is not the text of the stack");
        int[][] others = {t(), t(1), t(1, 2, 3), t(2, 1), t(1, 10002), t(10001, 2), t(1, 1)};
        for (int[] other : others) {
            Bench b = Bench.stacked(t(1, 2));
            int patch = b.make(LEAST, other, t(1, 2));
            CHECKS.refused("push on the base, of " + b.lines(patch, false), Checks.STATE, () -> b.bench.push(patch));
            b.pushTo(LEAST, 3, 4);
            CHECKS.refused("push on a patch, of " + b.lines(patch, false), Checks.STATE, () -> b.bench.push(patch));
            CHECKS.refused("push of the text of the base", Checks.STATE, () -> b.bench.push(1));
            CHECKS.due("height", b.bench.height(), 1);
        }
    }

    private static void namesAreKept() {
        CHECKS.says("A patch that is pushed gets a name, a number from 0 on, which it keeps however it is changed or moved.");
        Bench b = five();
        CHECKS.due("names", b.names(), "0 1 2 3 4");
        b.bench.swap(3);
        b.bench.swap(2);
        b.bench.swap(1);
        CHECKS.due("moved down to the lowest", b.bench.swap(0), 4);
        CHECKS.due("names", b.names(), "4 0 1 2 3");
        b.bench.edit(1, 0, 9);
        CHECKS.due("changed", b.names(), "4 0 1 2 3");
        b.fill(0, 7);
        b.bench.refresh(0, LEAST);
        CHECKS.due("made anew", b.names(), "4 0 1 2 3");
        b.bench.fold(2);
        CHECKS.due("folded, under the name of the lower one", b.names(), "4 0 1 3");
        b.bench.pop();
        CHECKS.due("the others", b.names(), "4 0 1");
    }

    private static void patchesArePoppedToTheLast() {
        CHECKS.says("if the stack has none");
        CHECKS.refused("of a new object", Checks.STATE, () -> new PatchBench().pop());
        Bench b = five();
        for (int name = 4; name >= 0; name--) {
            CHECKS.due("pop", b.bench.pop(), name);
        }
        CHECKS.refused("one more", Checks.STATE, () -> b.bench.pop());
        CHECKS.due("the base", b.top(), "1 0 2 0 3 0 4 0 5");
    }

    private static void patchesAreTakenFromTheLowestToTheLast() {
        CHECKS.says("a patch of the stack, 0 for the lowest one");
        Bench b = five();
        CHECKS.refused("k -1", Checks.INDEX, () -> b.bench.take(-1));
        CHECKS.refused("k 5", Checks.INDEX, () -> b.bench.take(5));
        for (int k = 0; k < 5; k++) {
            int patch = b.bench.take(k);
            CHECKS.due("number", patch, 5 + k);
            CHECKS.due("it is equal", b.bench.areEqual(k, patch), true);
        }
        CHECKS.due("the stack is as it was", b.bench.height(), 5);
        CHECKS.refused("of an empty stack", Checks.INDEX, () -> new PatchBench().take(0));
        for (int k = 10; k < 24; k++) {
            b.bench.take(4);
        }
        CHECKS.refused("the 25th", Checks.STATE, () -> b.bench.take(4));
        CHECKS.refused("no such one, with 24", Checks.INDEX, () -> b.bench.take(5));
        CHECKS.due("patches", b.bench.patches(), 24);
    }

    private static void neighboursAreSwappedFromTheLowestOn() {
        CHECKS.says("if there is no such one, or none on it");
        for (int k = 0; k < 4; k++) {
            Bench b = five();
            CHECKS.due("swap " + k, b.bench.swap(k), k + 1);
            CHECKS.due("the name above", b.bench.nameAt(k + 1), k);
            CHECKS.due("the top", b.top(), "11 0 12 0 13 0 14 0 15");
            CHECKS.refused("the last one", Checks.INDEX, () -> b.bench.swap(4));
            CHECKS.refused("none", Checks.INDEX, () -> b.bench.swap(5));
            CHECKS.refused("k -1", Checks.INDEX, () -> b.bench.swap(-1));
            CHECKS.refused("the greatest number", Checks.INDEX, () -> b.bench.swap(Integer.MAX_VALUE));
            CHECKS.refused("the least number", Checks.INDEX, () -> b.bench.swap(Integer.MIN_VALUE));
            CHECKS.due("back", b.bench.swap(k), k);
            b.bench.take(k);
            b.bench.take(k + 1);
            CHECKS.due("the lower one again", b.bench.areEqual(5, k), true);
            CHECKS.due("the upper one again", b.bench.areEqual(6, k + 1), true);
        }
        CHECKS.refused("of one", Checks.INDEX, () -> Bench.stacked(t(1), t(2)).bench.swap(0));
        CHECKS.refused("of none", Checks.INDEX, () -> new PatchBench().swap(0));
        CHECKS.says("if the upper one depends on the lower one");
        CHECKS.refused("the same line", Checks.STATE, () -> Bench.stacked(t(1), t(2), t(3)).bench.swap(0));
        CHECKS.refused("the next line", Checks.STATE, () -> Bench.stacked(t(1, 2), t(3, 2), t(3, 4)).bench.swap(0));
        CHECKS.due("one line between", Bench.stacked(t(1, 2, 3), t(4, 2, 3), t(4, 2, 5)).bench.swap(0), 1);
    }

    private static void theOrderChangesNoText() {
        CHECKS.says("the order of patches that do not depend on each other changes no text");
        Bench b = five();
        for (int last = 4; last > 0; last--) {
            for (int k = 0; k < last; k++) {
                b.bench.swap(k);
                CHECKS.due("the text with " + b.names(), b.top(), "11 0 12 0 13 0 14 0 15");
            }
        }
        CHECKS.due("the other way round", b.names(), "4 3 2 1 0");
        CHECKS.due("all texts", downward(b), "11 0 12 0 13 0 14 0 15 | 1 0 12 0 13 0 14 0 15 | 1 0 2 0 13 0 14 0 15 | "
                + "1 0 2 0 3 0 14 0 15 | 1 0 2 0 3 0 4 0 15 | 1 0 2 0 3 0 4 0 5");
    }

    private static void sixteenLinesBetweenNeighbours() {
        CHECKS.says("or the text between them would have more than 16 lines");
        int[] without1 = Arrays.copyOfRange(DISTINCT, 1, 16);
        int[] more = Arrays.copyOf(without1, 16);
        more[15] = 21;
        Bench b = Bench.stacked(DISTINCT, without1, more);
        CHECKS.refused("17 lines", Checks.STATE, () -> b.bench.swap(0));
        CHECKS.due("names", b.names(), "0 1");
        CHECKS.due("the top", b.bench.top(15), 21);
        int[] changed = without1.clone();
        changed[14] = 21;
        Bench c = Bench.stacked(DISTINCT, without1, changed);
        CHECKS.due("16 lines", c.bench.swap(0), 1);
        c.bench.pop();
        CHECKS.due("they are there", c.bench.top(15), 21);
    }

    private static void neighboursAreFoldedFromTheLowestOn() {
        CHECKS.says("Folds two neighbours of the stack: they are joined, under the name of the lower one.");
        String[] names = {"0 2 3 4", "0 1 3 4", "0 1 2 4", "0 1 2 3"};
        String[] texts = {"11 0 12 0 13 0 14 0 15", "11 0 12 0 13 0 14 0 5", "11 0 12 0 13 0 4 0 5", "11 0 12 0 3 0 4 0 5",
            "11 0 2 0 3 0 4 0 5", "1 0 2 0 3 0 4 0 5"};
        for (int k = 0; k < 4; k++) {
            Bench b = five();
            CHECKS.refused("the last one", Checks.INDEX, () -> b.bench.fold(4));
            CHECKS.refused("the greatest number", Checks.INDEX, () -> b.bench.fold(Integer.MAX_VALUE));
            CHECKS.refused("the least number", Checks.INDEX, () -> b.bench.fold(Integer.MIN_VALUE));
            CHECKS.due("fold " + k, b.bench.fold(k), 4);
            CHECKS.due("names", b.names(), names[k]);
            CHECKS.due("hunks of the joined one", b.bench.hunks(b.bench.take(k)), 2);
            StringBuilder want = new StringBuilder();
            for (int i = 0; i < 6; i++) {
                want.append(i == 4 - k ? "" : i > 0 ? " | " + texts[i] : texts[i]);
            }
            CHECKS.due("the texts", downward(b), want.toString());
        }
        Bench b = five();
        for (int height = 4; height > 0; height--) {
            CHECKS.due("fold to one", b.bench.fold(0), height);
        }
        CHECKS.due("one name", b.names(), "0");
        CHECKS.refused("one alone", Checks.INDEX, () -> b.bench.fold(0));
        CHECKS.refused("k -1", Checks.INDEX, () -> b.bench.fold(-1));
        CHECKS.refused("none", Checks.INDEX, () -> new PatchBench().fold(0));
    }

    private static void addedLinesAreEditedFromTheFirstToTheLast() {
        CHECKS.says("the place of a line of its new text");
        Bench b = Bench.stacked(t(5), t(8, 5, 9));
        CHECKS.due("the first", b.bench.edit(0, 0, 1), 8);
        CHECKS.due("the last", b.bench.edit(0, 2, 2), 9);
        CHECKS.due("the text", b.top(), "1 5 2");
        CHECKS.refused("behind the last", Checks.INDEX, () -> b.bench.edit(0, 3, 1));
        CHECKS.refused("ahead of the first", Checks.INDEX, () -> b.bench.edit(0, -1, 1));
        Bench c = Bench.stacked(t(), DISTINCT);
        CHECKS.due("the 16th", c.bench.edit(0, 15, 0), 17);
        CHECKS.refused("the 17th", Checks.INDEX, () -> c.bench.edit(0, 16, 0));
        CHECKS.refused("of an empty new text", Checks.INDEX, () -> Bench.stacked(t(1), t()).bench.edit(0, 0, 1));
        CHECKS.says("if line is neither a line nor a mark");
        for (int line : new int[] {-1, 10, 10000, 40001, 50000, 50004}) {
            CHECKS.refused("to " + line, Checks.ARGUMENT, () -> c.bench.edit(0, 0, line));
        }
        int before = 1;
        for (int line : new int[] {0, 39999, 50001, 50003, 9, 9}) {
            CHECKS.due("to " + line, c.bench.edit(0, 0, line), before);
            CHECKS.due("it is there", c.bench.top(0), line);
            before = line;
        }
    }

    private static void editsGoUpAndNotDown() {
        CHECKS.says("the line is changed in the texts of the patches on it, too, as far as they keep it");
        Bench b = Bench.stacked(t(1, 2), t(1, 2, 8), t(1, 2, 8, 9), t(7, 1, 2, 8, 9), t(7, 1, 8, 9), t(7, 1, 8));
        CHECKS.due("of the lowest", b.bench.edit(0, 2, 18), 8);
        CHECKS.due("of the next one", b.bench.edit(1, 3, 19), 9);
        CHECKS.due("of the third", b.bench.edit(2, 0, 17), 7);
        CHECKS.due("all texts", downward(b), "17 1 18 | 17 1 18 19 | 17 1 2 18 19 | 1 2 18 19 | 1 2 18 | 1 2");
        // A line of an upper one that stands where the lower texts have lines of their own.
        Bench c = Bench.stacked(t(1, 2), t(3, 2), t(3, 2, 4), t(5, 3, 2, 4));
        CHECKS.due("of the last", c.bench.edit(2, 0, 6), 5);
        CHECKS.due("of the one in the middle", c.bench.edit(1, 2, 7), 4);
        CHECKS.due("all texts", downward(c), "6 3 2 7 | 3 2 7 | 3 2 | 1 2");
        // What the next one drops goes no further.
        Bench d = Bench.stacked(t(1), t(1, 2), t(1), t(1, 2));
        CHECKS.due("what is dropped right above", d.bench.edit(0, 1, 3), 2);
        d.bench.take(1);
        CHECKS.due("the old text there", d.lines(3, false), "1 3");
        CHECKS.due("all texts", downward(d), "1 2 | 1 | 1 3 | 1");
    }

    private static void pairedLinesAreNotEdited() {
        CHECKS.says("if the line is paired");
        Bench b = Bench.stacked(t(1, 2), t(1, 8, 2), t(1, 8, 2));
        CHECKS.refused("the first", Checks.STATE, () -> b.bench.edit(0, 0, 5));
        CHECKS.refused("the last", Checks.STATE, () -> b.bench.edit(0, 2, 5));
        CHECKS.refused("what a lower one adds", Checks.STATE, () -> b.bench.edit(1, 1, 5));
        CHECKS.refused("to the same line", Checks.STATE, () -> b.bench.edit(0, 0, 1));
        CHECKS.due("nothing changed", downward(b), "1 8 2 | 1 8 2 | 1 2");
    }

    private static void theLastPatchIsRefreshed() {
        CHECKS.says("Makes the last patch of the stack anew, of its old text and another new one; it keeps its name.");
        Bench b = five();
        b.fill(0);
        b.fill(1, DISTINCT);
        b.fill(2, 11, 0, 12, 0, 13, 0, 14, 0, 5);
        CHECKS.due("to an empty text", b.bench.refresh(0, LEAST), 1);
        CHECKS.due("the top", b.top(), "");
        CHECKS.due("to a full text", b.bench.refresh(1, UNIQUE), 5);
        CHECKS.due("the last line", b.bench.top(15), 17);
        CHECKS.due("to its old text", b.bench.refresh(2, RARE), 0);
        CHECKS.due("names", b.names(), "0 1 2 3 4");
        CHECKS.due("what was pushed is as it was", b.lines(4, true), "11 0 12 0 13 0 14 0 15");
        CHECKS.due("those below", downward(b), "11 0 12 0 13 0 14 0 5 | 11 0 12 0 13 0 14 0 5 | 11 0 12 0 13 0 4 0 5 | "
                + "11 0 12 0 3 0 4 0 5 | 11 0 2 0 3 0 4 0 5 | 1 0 2 0 3 0 4 0 5");
        CHECKS.says("if the stack has no patch");
        CHECKS.refused("of none", Checks.STATE, () -> b.bench.refresh(0, LEAST));
        CHECKS.refused("of none, no such way", Checks.ARGUMENT, () -> b.bench.refresh(0, 3));
        CHECKS.refused("of none, way -1", Checks.ARGUMENT, () -> b.bench.refresh(0, -1));
        CHECKS.refused("of none, no such text and way", Checks.INDEX, () -> b.bench.refresh(4, 3));
        CHECKS.due("the base", b.top(), "1 0 2 0 3 0 4 0 5");
    }

    private static void refreshedByEachWay() {
        CHECKS.says("LEAST, UNIQUE or RARE");
        String[] pairs = {"-1 -1 1 2 -1", "-1 -1 1 2 -1", "-1 1 2 -1 -1"};
        Bench b = Bench.stacked(t(9, 1, 1, 1, 8), t(5));
        b.fill(0, 7, 1, 1, 6);
        for (int way = LEAST; way <= RARE; way++) {
            b.bench.refresh(0, way);
            CHECKS.due("by " + way, b.pairs(b.bench.take(0)), pairs[way]);
        }
        Bench c = Bench.stacked(t(1, 10002, 3), t(3));
        c.fill(0, 1, 10002, 1, 10002, 3);
        c.bench.refresh(0, LEAST);
        CHECKS.due("shifted to the beginning", c.hunks(c.bench.take(0)), "0 0 0 2");
    }

    private static void theTopIsReadFromTheFirstToBehindTheLast() {
        CHECKS.says("Returns the line; NONE behind the last one.");
        Bench b = Bench.stacked(t(1), DISTINCT);
        CHECKS.due("the first", b.bench.top(0), 1);
        CHECKS.due("the last", b.bench.top(15), 17);
        CHECKS.due("behind it", b.bench.top(16), PatchBench.NONE);
        CHECKS.due("far behind it", b.bench.top(Integer.MAX_VALUE), PatchBench.NONE);
        CHECKS.refused("place -1", Checks.INDEX, () -> b.bench.top(-1));
        CHECKS.refused("the least place", Checks.INDEX, () -> b.bench.top(Integer.MIN_VALUE));
        CHECKS.refused("place -1 of nothing", Checks.INDEX, () -> new PatchBench().top(-1));
    }

    private static void fromNoneToAllAreNeeded() {
        CHECKS.says("Returns the places that they have in the stack, as a set: the bit j for the place j.");
        Bench apart = five();
        Bench all = Bench.stacked(t(1), t(2), t(3), t(4), t(5), t(6));
        for (int k = 0; k < 5; k++) {
            CHECKS.due("none of those apart", apart.bench.needs(k), 0);
            CHECKS.due("all on one line", all.bench.needs(k), (1 << k) - 1);
        }
        CHECKS.refused("k 5", Checks.INDEX, () -> all.bench.needs(5));
        CHECKS.refused("k -1", Checks.INDEX, () -> all.bench.needs(-1));
        CHECKS.refused("of none", Checks.INDEX, () -> new PatchBench().needs(0));
        CHECKS.due("the stack is as it was", all.top() + " " + all.names(), "6 0 1 2 3 4");
        Bench lowest = Bench.stacked(t(1, 0, 2, 0, 3), t(9, 0, 2, 0, 3), t(9, 0, 8, 0, 3), t(9, 0, 8, 0, 7),
                t(6, 0, 8, 0, 7));
        CHECKS.due("the lowest alone", lowest.bench.needs(3), 1);
    }

    private static void theGroupIsMovedPastFromItsLowestOn() {
        CHECKS.says("each one is moved past all patches of the group, which at first is the patch alone, the lowest one "
                + "first, if none of them depends on it, as both are then");
        // Moved past the second one, the lowest one lies three lines on, and so does not touch the last one.
        Bench b = Bench.stacked(t(1, 2, 3, 4, 5), t(1, 2, 3, 9, 5), t(7, 7, 7, 1, 2, 3, 9, 5),
                t(7, 7, 7, 8, 1, 2, 3, 9, 5));
        CHECKS.due("the second alone", b.bench.needs(2), 2);
        // Moved past the second one, the lowest one lies two lines back, and so touches the last one.
        Bench c = Bench.stacked(t(1, 2, 3, 4, 5, 6), t(1, 2, 3, 4, 9, 6), t(3, 4, 9, 6), t(3, 4, 9, 8));
        CHECKS.due("the lowest alone", c.bench.needs(2), 1);
        CHECKS.says("otherwise it comes into the group, as its lowest one, and the group stays as it was ahead of that");
        Bench d = Bench.stacked(t(1, 2, 3, 4, 5, 6, 7), t(1, 2, 3, 4, 5, 6, 9), t(8, 2, 3, 4, 5, 6, 9),
                t(8, 2, 3, 4, 5, 11, 9), t(8, 2, 3, 4, 12, 11, 9), t(8, 2, 3, 13, 12, 11, 9));
        CHECKS.due("by way of two others", d.bench.needs(4), 13);
        CHECKS.due("by way of another one", d.bench.needs(3), 5);
        CHECKS.due("the one beside it", d.bench.needs(2), 1);
        CHECKS.due("the one apart", d.bench.needs(1), 0);
        // The lowest one touches the last member of a group of four alone, or none of them.
        int[][] texts = {t(9, 2, 3, 4, 5, 6), t(9, 2, 3, 4, 5, 16), t(9, 2, 3, 4, 15, 16), t(9, 2, 3, 14, 15, 16)};
        Bench e = Bench.stacked(t(1, 2, 3, 4, 5, 6), texts[0], texts[1], texts[2], texts[3], t(9, 12, 13, 14, 15, 16));
        CHECKS.due("the last of four", e.bench.needs(4), 15);
        CHECKS.due("the group of three", e.bench.needs(3), 6);
        Bench f = Bench.stacked(t(1, 2, 3, 4, 5, 6), texts[0], texts[1], texts[2], texts[3], t(9, 2, 13, 14, 15, 16));
        CHECKS.due("none of four", f.bench.needs(4), 14);
    }

    private static void neededPatchesOfOneStackAndThenAnother() {
        CHECKS.says("The patches of the group besides the patch itself are those that it needs.");
        Bench b = Bench.stacked(t(1, 2, 3), t(1, 7, 3), t(1, 8, 3), t(1, 9, 3));
        CHECKS.due("both below", b.bench.needs(2), 3);
        downward(b);
        b.fill(0, 1, 2, 3, 4, 5);
        b.bench.setBase(0);
        b.pushTo(LEAST, 1, 9, 3, 4, 5);
        b.pushTo(LEAST, 1, 9, 3, 4, 8);
        CHECKS.due("none below", b.bench.needs(1), 0);
        CHECKS.due("none below, asked again", b.bench.needs(1), 0);
        CHECKS.due("of the lowest", b.bench.needs(0), 0);
    }

    private static void trialsHaveMoreThanSixteenLines() {
        CHECKS.says("This, as the finding of orders, changes nothing of the stack, and texts may have more than 16 lines in "
                + "it.");
        // Two drop half of the text, two add half of it again.
        int[] half = {9, 11, 12, 13, 14, 15, 16, 17};
        int[] more = {9, 11, 12, 13, 14, 15, 16, 17, 1, 2, 3, 4, 5, 6, 7, 8};
        int[] fewer = {9, 15, 16, 17, 1, 2, 3, 4, 5, 6, 7, 8};
        int[] again = {9, 15, 16, 17, 21, 22, 23, 24, 1, 2, 3, 4, 5, 6, 7, 8};
        Bench b = Bench.stacked(DISTINCT, half, more);
        CHECKS.due("24 lines between", b.bench.orders(), 2);
        CHECKS.due("needs", b.bench.needs(1), 0);
        CHECKS.refused("swapped, there would be 24", Checks.STATE, () -> b.bench.swap(0));
        b.pushTo(LEAST, fewer);
        CHECKS.due("orders of three", b.bench.orders(), 6);
        b.pushTo(LEAST, again);
        CHECKS.due("needs of the last", b.bench.needs(3), 2);
        CHECKS.due("orders of four", b.bench.orders(), 12);
        CHECKS.due("the top is as it was", b.top(), "9 15 16 17 21 22 23 24 1 2 3 4 5 6 7 8");
        CHECKS.due("names", b.names(), "0 1 2 3");
        CHECKS.due("the texts below", downward(b), "9 15 16 17 21 22 23 24 1 2 3 4 5 6 7 8 | "
                + "9 15 16 17 1 2 3 4 5 6 7 8 | 9 11 12 13 14 15 16 17 1 2 3 4 5 6 7 8 | 9 11 12 13 14 15 16 17 | "
                + "1 2 3 4 5 6 7 8 9 11 12 13 14 15 16 17");
    }

    private static void fromOneOrderToAll() {
        CHECKS.says("An order of the stack is one to which its patches can be brought by moving two neighbours past each "
                + "other, once or more often, or not at all.");
        Bench apart = five();
        apart.bench.pop();
        Bench touching = Bench.stacked(t(1), t(2), t(3), t(4), t(5));
        int[] orders = {1, 1, 2, 6, 24};
        for (int height = 4; height >= 0; height--) {
            CHECKS.due(height + " apart", apart.bench.orders(), orders[height]);
            CHECKS.due(height + " on one line", touching.bench.orders(), 1);
            if (height > 0) {
                apart.bench.pop();
                touching.bench.pop();
            }
        }
        Bench pairs = Bench.stacked(t(1, 0, 2), t(3, 0, 2), t(4, 0, 2), t(4, 0, 5), t(4, 0, 6));
        CHECKS.due("two and two", pairs.bench.orders(), 6);
        CHECKS.due("the stack is as it was", pairs.names() + ": " + pairs.top(), "0 1 2 3: 4 0 6");
    }

    private static void ordersOfOneStackAndThenAnother() {
        CHECKS.says("Returns how many orders the stack has, found by trying all.");
        Bench b = five();
        b.bench.pop();
        CHECKS.due("four apart", b.bench.orders(), 24);
        downward(b);
        b.fill(0, 1, 0, 2);
        b.bench.setBase(0);
        b.pushTo(LEAST, 3, 0, 2);
        b.pushTo(LEAST, 4, 0, 2);
        b.pushTo(LEAST, 4, 0, 5);
        CHECKS.due("two and one", b.bench.orders(), 3);
        b.pushTo(LEAST, 4, 0, 6);
        CHECKS.due("two and two", b.bench.orders(), 6);
        CHECKS.due("asked again", b.bench.orders(), 6);
    }

    private static void ordersOfFiveAreRefused() {
        CHECKS.says("if it has more than 4 patches");
        Bench b = five();
        CHECKS.refused("five", Checks.STATE, () -> b.bench.orders());
        CHECKS.due("nothing changed", b.names(), "0 1 2 3 4");
        b.bench.pop();
        CHECKS.due("four", b.bench.orders(), 24);
    }

    private static void linesOfTheBase() {
        CHECKS.says("A line that comes to the base is of the base.");
        Bench b = Bench.stacked(DISTINCT);
        CHECKS.due("the first", b.bench.blame(0), PatchBench.NONE);
        CHECKS.due("it began", b.bench.began(0), 0);
        CHECKS.due("the last", b.bench.blame(15), PatchBench.NONE);
        CHECKS.due("it began", b.bench.began(15), 15);
        CHECKS.refused("behind it", Checks.INDEX, () -> b.bench.blame(16));
        CHECKS.refused("where it began", Checks.INDEX, () -> b.bench.began(16));
        CHECKS.refused("place -1", Checks.INDEX, () -> b.bench.blame(-1));
        CHECKS.refused("began -1", Checks.INDEX, () -> b.bench.began(-1));
        CHECKS.due("under five patches", Bench.stacked(t(7), t(1, 7), t(1, 7, 2), t(3, 1, 7, 2), t(3, 7, 2), t(7)).blames(),
                "-1:0");
        CHECKS.refused("of an empty new text", Checks.INDEX, () -> Bench.stacked(t(7), t()).bench.blame(0));
    }

    private static void linesOfPatches() {
        CHECKS.says("Where none of these is so, the patch is to blame.");
        CHECKS.due("the first and the last line", Bench.stacked(t(1), t(9, 1, 8)).blames(), "0:0 -1:0 0:2");
        CHECKS.due("each line of another one", five().blames(), "0:0 -1:1 1:2 -1:3 2:4 -1:5 3:6 -1:7 4:8");
        CHECKS.due("on an empty base", Bench.stacked(t(), t(1), t(2, 1)).blames(), "1:0 0:0");
        StringBuilder all = new StringBuilder();
        for (int i = 0; i < 16; i++) {
            all.append(i > 0 ? " 0:" : "0:").append(i);
        }
        CHECKS.due("all sixteen", Bench.stacked(DISTINCT, full(21)).blames(), all.toString());
        // Its name tells the patch, wherever it lies.
        Bench b = five();
        b.bench.swap(3);
        b.bench.swap(0);
        CHECKS.due("moved", b.blames(), "0:0 -1:1 1:2 -1:3 2:4 -1:5 3:6 -1:7 4:8");
        b.bench.fold(0);
        CHECKS.due("folded", b.blames(), "1:0 -1:1 1:2 -1:3 2:4 -1:5 3:6 -1:7 4:8");
        b.bench.edit(0, 0, 31);
        CHECKS.due("edited", b.blames(), "1:0 -1:1 1:2 -1:3 2:4 -1:5 3:6 -1:7 4:8");
    }

    private static void movedLinesAtTheEdges() {
        CHECKS.says("to the lowest one of the dropped lines that were moved to it and are the same, if there is one");
        CHECKS.due("from the beginning to the end", Bench.stacked(t(1, 2, 5, 6, 7), t(5, 6, 7, 1, 2)).blames(),
                "-1:2 -1:3 -1:4 -1:0 -1:1");
        CHECKS.due("from the end to the beginning", Bench.stacked(t(5, 6, 7, 1, 2), t(1, 2, 5, 6, 7)).blames(),
                "-1:3 -1:4 -1:0 -1:1 -1:2");
        CHECKS.due("one line is not moved", Bench.stacked(t(1, 5, 6), t(5, 6, 1)).blames(), "-1:1 -1:2 0:2");
        CHECKS.due("from three lines to two", Bench.stacked(t(1, 1, 1, 5, 6, 7, 8), t(5, 6, 7, 8, 1, 1)).blames(),
                "-1:3 -1:4 -1:5 -1:6 -1:0 -1:1");
        CHECKS.due("what is only alike is added", Bench.stacked(t(1, 2, 5, 6, 7), t(5, 6, 7, 1, 10002)).blames(),
                "-1:2 -1:3 -1:4 -1:0 0:4");
        CHECKS.due("by way of another patch", Bench.stacked(t(5, 6, 7), t(1, 2, 5, 6, 7), t(5, 6, 7, 1, 2)).blames(),
                "-1:0 -1:1 -1:2 0:0 0:1");
    }

    private static void formattedLinesAtTheEdges() {
        CHECKS.says("A patch only formats, if each hunk drops as many lines as it adds, with the same words, one by one.");
        CHECKS.due("one line", Bench.stacked(t(1), t(30001)).blames(), "-1:0");
        CHECKS.due("the first and the last", Bench.stacked(t(1, 5, 2), t(10001, 5, 20002)).blames(), "-1:0 -1:1 -1:2");
        CHECKS.due("all lines", Bench.stacked(t(1, 2, 3), t(10001, 10002, 10003)).blames(), "-1:0 -1:1 -1:2");
        CHECKS.due("one more is added", Bench.stacked(t(1, 2), t(10001, 10002, 3)).blames(), "0:0 0:1 0:2");
        CHECKS.due("one more is dropped", Bench.stacked(t(1, 2, 3), t(10001, 10002)).blames(), "0:0 0:1");
        CHECKS.due("other words at the end", Bench.stacked(t(1, 2), t(10001, 10003)).blames(), "0:0 0:1");
        CHECKS.due("other words at the beginning", Bench.stacked(t(1, 2), t(10003, 10002)).blames(), "0:0 0:1");
        CHECKS.due("the other way round", Bench.stacked(t(1, 2), t(10002, 10001)).blames(), "0:0 0:1");
        CHECKS.due("words in another order", Bench.stacked(t(12), t(10021)).blames(), "0:0");
        CHECKS.due("another hunk adds", Bench.stacked(t(1, 5), t(10001, 5, 6)).blames(), "0:0 -1:1 0:2");
        CHECKS.due("another hunk drops", Bench.stacked(t(1, 5, 6), t(10001, 5)).blames(), "0:0 -1:1");
        CHECKS.due("a blank is no formatted line", Bench.stacked(t(0), t(10001)).blames(), "0:0");
        CHECKS.due("a line is no formatted blank", Bench.stacked(t(10001), t(0)).blames(), "0:0");
        CHECKS.says("without words that others have");
        CHECKS.due("a mark and a line", Bench.stacked(t(1), t(50001)).blames(), "0:0");
        CHECKS.due("a line and a mark", Bench.stacked(t(50001), t(1)).blames(), "0:0");
        CHECKS.due("a mark and a blank", Bench.stacked(t(50001), t(0)).blames(), "0:0");
        CHECKS.due("two marks", Bench.stacked(t(50001), t(50002)).blames(), "0:0");
    }
}
