/** Promises 30 to 44: the stack. */
public final class StackTest {
    private static final Checks CHECKS = new Checks("StackTest");
    private static final int LEAST = PatchBench.LEAST, RARE = PatchBench.RARE;

    private StackTest() {
    }

    public static void main(String[] args) {
        aTextBecomesTheBase();
        patchesArePushedAndPopped();
        namesAreKeptAndGoOn();
        pushRefusesWhatDoesNotFit();
        patchesAreTaken();
        neighboursAreSwapped();
        swapRefusesWhatCantBe();
        neighboursAreFolded();
        addedLinesAreEdited();
        editRefusesWhatCantBe();
        theLastPatchIsRefreshed();
        namesAndLinesAreRead();
        neededPatchesAreTold();
        aNeededPatchIsNeededWithItsNeeds();
        trialsMayHaveLongTexts();
        ordersAreCounted();
        linesAreBlamed();
        movedLinesAreBlamedFurtherDown();
        formattingIsNotToBlame();
        CHECKS.end();
    }

    private static int[] t(int... lines) {
        return lines;
    }

    private static Bench stack(int[] base, int[]... texts) {
        return Bench.stacked(base, texts);
    }

    private static void aTextBecomesTheBase() {
        Bench b = new Bench();
        b.fill(1, 4, 5);
        CHECKS.due("setBase", b.bench.setBase(1), 2);
        b.bench.cut(1, 0);
        CHECKS.due("it is a copy", b.top(), "4 5");
        CHECKS.due("another base", b.bench.setBase(1), 1);
        CHECKS.due("the top", b.top(), "5");
        CHECKS.due("an empty one", b.bench.setBase(0), 0);
        CHECKS.refused("below", Checks.INDEX, () -> b.bench.setBase(-1));
        CHECKS.refused("above", Checks.INDEX, () -> b.bench.setBase(4));
        b.pushTo(LEAST, 7);
        CHECKS.refused("with a patch", Checks.STATE, () -> b.bench.setBase(1));
        CHECKS.refused("no text, with a patch", Checks.INDEX, () -> b.bench.setBase(4));
        b.bench.pop();
        CHECKS.due("without one again", b.bench.setBase(1), 1);
    }

    private static void patchesArePushedAndPopped() {
        Bench b = stack(t(1, 2, 3));
        CHECKS.due("push", b.pushTo(LEAST, 1, 9, 3), 0);
        CHECKS.due("push another one", b.pushTo(LEAST, 1, 9, 3, 4), 1);
        CHECKS.due("height", b.bench.height(), 2);
        CHECKS.due("top", b.top(), "1 9 3 4");
        CHECKS.due("pop", b.bench.pop(), 1);
        CHECKS.due("top then", b.top(), "1 9 3");
        CHECKS.due("pop again", b.bench.pop(), 0);
        CHECKS.due("top of the base", b.top(), "1 2 3");
        CHECKS.refused("pop of none", Checks.STATE, () -> b.bench.pop());
        CHECKS.due("height of none", b.bench.height(), 0);
    }

    private static void namesAreKeptAndGoOn() {
        Bench b = stack(t(1, 2, 3), t(1, 2, 3, 4), t(5, 1, 2, 3, 4));
        b.bench.swap(0);
        CHECKS.due("names go with the patches", b.names(), "1 0");
        b.bench.pop();
        CHECKS.due("a name is given once", b.pushTo(LEAST, 5, 1, 2, 3), 2);
        CHECKS.due("names", b.names(), "1 2");
    }

    private static void pushRefusesWhatDoesNotFit() {
        Bench b = stack(t(1), t(2), t(1), t(2), t(1));
        PatchBench x = b.bench;
        CHECKS.refused("another old text", Checks.STATE, () -> x.push(1));
        CHECKS.refused("patch below", Checks.INDEX, () -> x.push(-1));
        CHECKS.refused("patch above", Checks.INDEX, () -> x.push(4));
        CHECKS.due("the fifth", x.push(0), 4);
        CHECKS.refused("the sixth", Checks.STATE, () -> x.push(1));
        CHECKS.refused("no patch on a full stack", Checks.INDEX, () -> x.push(4));
        CHECKS.due("height", x.height(), 5);
        CHECKS.due("the name of a patch that was refused is free", x.pop() + 10 * x.push(0), 54);
    }

    private static void patchesAreTaken() {
        Bench b = stack(t(1, 2), t(1, 3), t(1, 3, 4));
        CHECKS.due("take the upper one", b.bench.take(1), 2);
        CHECKS.due("it is equal", b.bench.areEqual(1, 2), true);
        CHECKS.due("take the lower one", b.bench.take(0), 3);
        CHECKS.due("it is equal too", b.bench.areEqual(0, 3), true);
        CHECKS.refused("below", Checks.INDEX, () -> b.bench.take(-1));
        CHECKS.refused("above", Checks.INDEX, () -> b.bench.take(2));
        CHECKS.due("height", b.bench.height(), 2);
    }

    private static void neighboursAreSwapped() {
        Bench b = stack(t(1, 2, 3, 4, 5), t(1, 9, 3, 4, 5), t(1, 9, 3, 5), t(1, 9, 3, 5, 6));
        CHECKS.due("swap", b.bench.swap(0), 1);
        CHECKS.due("names", b.names(), "1 0 2");
        CHECKS.due("top", b.top(), "1 9 3 5 6");
        b.bench.take(0);
        b.bench.take(1);
        CHECKS.due("text between", b.lines(3, true), "1 2 3 5");
        CHECKS.due("hunk of the lower one", b.hunks(3), "3 1 3 0");
        CHECKS.due("hunk of the upper one", b.hunks(4), "1 1 1 1");
        CHECKS.due("swap back", b.bench.swap(0), 0);
        b.bench.take(0);
        CHECKS.due("as it was", b.bench.areEqual(5, 0), true);
    }

    private static void swapRefusesWhatCantBe() {
        Bench b = stack(t(1, 2, 3), t(1, 9, 3), t(1, 8, 3));
        CHECKS.refused("one depends", Checks.STATE, () -> b.bench.swap(0));
        CHECKS.refused("none on it", Checks.INDEX, () -> b.bench.swap(1));
        CHECKS.refused("none", Checks.INDEX, () -> b.bench.swap(2));
        CHECKS.refused("below", Checks.INDEX, () -> b.bench.swap(-1));
        CHECKS.refused("far above", Checks.INDEX, () -> b.bench.swap(Integer.MAX_VALUE));
        CHECKS.due("names", b.names(), "0 1");
        Bench c = stack(t(1, 2, 3, 4, 5, 6, 7, 8, 9, 11, 12, 13, 14, 15, 16, 17),
                t(2, 3, 4, 5, 6, 7, 8, 9, 11, 12, 13, 14, 15, 16, 17),
                t(2, 3, 4, 5, 6, 7, 8, 9, 11, 12, 13, 14, 15, 16, 17, 18));
        CHECKS.refused("17 lines between", Checks.STATE, () -> c.bench.swap(0));
        CHECKS.due("top", c.bench.top(15), 18);
        CHECKS.due("though it needs none", c.bench.needs(1), 0);
        CHECKS.due("and has both orders", c.bench.orders(), 2);
        Bench d = stack(t(1, 2, 3, 4, 5, 6, 7, 8, 9, 11, 12, 13, 14, 15, 16),
                t(2, 3, 4, 5, 6, 7, 8, 9, 11, 12, 13, 14, 15, 16),
                t(2, 3, 4, 5, 6, 7, 8, 9, 11, 12, 13, 14, 15, 16, 18));
        CHECKS.due("16 lines between", d.bench.swap(0), 1);
        PatchBench x = new PatchBench();
        CHECKS.refused("an empty stack", Checks.INDEX, () -> x.swap(0));
        CHECKS.refused("an empty stack, below", Checks.INDEX, () -> x.swap(-1));
    }

    private static void neighboursAreFolded() {
        Bench b = stack(t(1, 2, 3), t(1, 9, 3), t(1, 9, 3, 4), t(1, 2, 3, 4));
        CHECKS.due("fold", b.bench.fold(1), 2);
        CHECKS.due("names", b.names(), "0 1");
        CHECKS.due("top", b.top(), "1 2 3 4");
        b.bench.take(1);
        CHECKS.due("the joined one", b.hunks(3), "1 1 1 1 | 3 0 3 1");
        CHECKS.due("fold again", b.bench.fold(0), 1);
        b.bench.take(0);
        CHECKS.due("what is the same is paired", b.pairs(4), "0 1 2");
        CHECKS.due("names", b.names(), "0");
        Bench c = stack(t(1, 2, 3), t(1, 9, 3), t(1, 9, 3, 4), t(7, 1, 9, 3, 4), t(7, 1, 9, 3, 4, 6));
        CHECKS.due("fold the lowest ones", c.bench.fold(0), 3);
        CHECKS.due("names", c.names(), "0 2 3");
        for (int k = 0; k < 3; k++) {
            c.bench.take(k);
        }
        CHECKS.due("the joined one", c.hunks(4), "1 1 1 1 | 3 0 3 1");
        CHECKS.due("the third", c.bench.areEqual(5, 2), true);
        CHECKS.due("the fourth", c.bench.areEqual(6, 3), true);
        CHECKS.due("pop the fourth", c.bench.pop(), 3);
        CHECKS.due("top", c.top(), "7 1 9 3 4");
        CHECKS.refused("none on it", Checks.INDEX, () -> b.bench.fold(0));
        CHECKS.refused("below", Checks.INDEX, () -> b.bench.fold(-1));
        CHECKS.refused("none", Checks.INDEX, () -> b.bench.fold(1));
        CHECKS.refused("far above", Checks.INDEX, () -> b.bench.fold(Integer.MAX_VALUE));
        CHECKS.refused("an empty stack", Checks.INDEX, () -> new PatchBench().fold(0));
    }

    private static void addedLinesAreEdited() {
        Bench b = stack(t(1, 2), t(1, 8, 9, 2), t(3, 1, 8, 9, 2), t(3, 1, 8, 2));
        CHECKS.due("edit", b.bench.edit(0, 1, 7), 8);
        CHECKS.due("as far as it is kept", b.top(), "3 1 7 2");
        CHECKS.due("edit what is dropped later", b.bench.edit(0, 2, 6), 9);
        CHECKS.due("the top is as it was", b.top(), "3 1 7 2");
        b.bench.take(0);
        b.bench.take(1);
        b.bench.take(2);
        CHECKS.due("the patch itself", b.lines(3, true), "1 7 6 2");
        CHECKS.due("the one on it", b.lines(4, false) + ", " + b.lines(4, true), "1 7 6 2, 3 1 7 6 2");
        CHECKS.due("the one that drops it", b.lines(5, false) + ", " + b.lines(5, true), "3 1 7 6 2, 3 1 7 2");
        CHECKS.due("its pairs", b.pairs(5), "0 1 2 -1 3");
        CHECKS.due("what was pushed is as it was", b.lines(0, true), "1 8 9 2");
        CHECKS.due("to a mark", b.bench.edit(1, 0, 50001), 3);
        CHECKS.due("to the same as ever", b.bench.edit(1, 0, 50001), 50001);
        CHECKS.due("the top", b.top(), "50001 1 7 2");
    }

    private static void editRefusesWhatCantBe() {
        Bench b = stack(t(1, 2), t(1, 8, 2));
        PatchBench x = b.bench;
        CHECKS.refused("k below", Checks.INDEX, () -> x.edit(-1, 0, 10));
        CHECKS.refused("k above", Checks.INDEX, () -> x.edit(1, 0, 10));
        CHECKS.refused("place below", Checks.INDEX, () -> x.edit(0, -1, 10));
        CHECKS.refused("place behind", Checks.INDEX, () -> x.edit(0, 3, 10));
        CHECKS.refused("no line at a paired place", Checks.ARGUMENT, () -> x.edit(0, 0, 10));
        CHECKS.refused("no line", Checks.ARGUMENT, () -> x.edit(0, 1, -1));
        CHECKS.refused("a paired line", Checks.STATE, () -> x.edit(0, 0, 1));
        CHECKS.due("nothing changed", b.top(), "1 8 2");
    }

    private static void theLastPatchIsRefreshed() {
        Bench b = stack(t(1, 0, 12, 0, 3), t(1, 5, 3), t(1, 3));
        b.fill(3, 1, 5, 3, 6);
        CHECKS.due("refresh", b.bench.refresh(3, LEAST), 1);
        CHECKS.due("top", b.top(), "1 5 3 6");
        CHECKS.due("names", b.names(), "0 1");
        b.bench.pop();
        b.fill(3, 1, 0, 12, 0, 12, 0, 3);
        CHECKS.due("refresh the other one", b.bench.refresh(3, RARE), 1);
        b.bench.take(0);
        CHECKS.due("its hunk", b.hunks(2), "4 0 4 2");
        Bench c = stack(t(1, 10002, 3), t(3));
        c.fill(2, 1, 10002, 1, 10002, 3);
        c.bench.refresh(2, LEAST);
        c.bench.take(0);
        CHECKS.due("its hunk is shifted", c.hunks(1), "0 0 0 2");
        b.fill(3, 9, 1, 1, 1, 8);
        b.fill(2, 7, 1, 1, 6);
        b.bench.pop();
        b.bench.setBase(3);
        b.pushTo(LEAST, 9);
        b.fill(2, 7, 1, 1, 6);
        b.bench.refresh(2, LEAST);
        b.bench.take(0);
        b.bench.refresh(2, RARE);
        b.bench.take(0);
        CHECKS.due("by LEAST", b.pairs(4), "-1 -1 1 2 -1");
        CHECKS.due("by RARE", b.pairs(5), "-1 1 2 -1 -1");
        b.fill(2, 9, 1, 1, 1, 8);
        CHECKS.due("no hunks", b.bench.refresh(2, LEAST), 0);
        CHECKS.due("one patch still", b.bench.height(), 1);
        CHECKS.refused("text below", Checks.INDEX, () -> b.bench.refresh(-1, 3));
        CHECKS.refused("text above", Checks.INDEX, () -> b.bench.refresh(4, 3));
        CHECKS.refused("way below", Checks.ARGUMENT, () -> b.bench.refresh(0, -1));
        CHECKS.refused("way above", Checks.ARGUMENT, () -> b.bench.refresh(0, 3));
        b.bench.pop();
        CHECKS.refused("no patch", Checks.STATE, () -> b.bench.refresh(0, 0));
        CHECKS.refused("no patch and no way", Checks.ARGUMENT, () -> b.bench.refresh(0, 3));
    }

    private static void namesAndLinesAreRead() {
        Bench b = stack(t(1, 2), t(1, 8, 2));
        CHECKS.due("nameAt", b.bench.nameAt(0), 0);
        CHECKS.refused("nameAt above", Checks.INDEX, () -> b.bench.nameAt(1));
        CHECKS.refused("nameAt below", Checks.INDEX, () -> b.bench.nameAt(-1));
        CHECKS.due("top", b.bench.top(1), 8);
        CHECKS.due("top behind", b.bench.top(3), PatchBench.NONE);
        CHECKS.due("top far behind", b.bench.top(Integer.MAX_VALUE), PatchBench.NONE);
        CHECKS.refused("top below", Checks.INDEX, () -> b.bench.top(-1));
        CHECKS.refused("needs above", Checks.INDEX, () -> b.bench.needs(1));
        CHECKS.refused("needs below", Checks.INDEX, () -> b.bench.needs(-1));
        CHECKS.refused("blame above", Checks.INDEX, () -> b.bench.blame(3));
        CHECKS.refused("blame below", Checks.INDEX, () -> b.bench.blame(-1));
        CHECKS.refused("began above", Checks.INDEX, () -> b.bench.began(3));
        CHECKS.refused("began below", Checks.INDEX, () -> b.bench.began(-1));
    }

    private static void neededPatchesAreTold() {
        Bench b = stack(t(1, 2, 3, 4, 5, 6), t(1, 9, 3, 4, 5, 6), t(1, 9, 3, 4, 8, 6), t(1, 9, 3, 4, 8, 7, 6),
                t(1, 9, 3, 4, 8, 7, 6, 6));
        CHECKS.due("the lowest", b.bench.needs(0), 0);
        CHECKS.due("one that is apart", b.bench.needs(1), 0);
        CHECKS.due("one beside another one", b.bench.needs(2), 2);
        CHECKS.due("names are as they were", b.names(), "0 1 2 3");
        CHECKS.due("the top is as it was", b.top(), "1 9 3 4 8 7 6 6");
        Bench c = stack(t(1, 2, 3), t(1, 7, 3), t(1, 8, 3), t(1, 9, 3), t(1, 4, 3), t(1, 5, 3));
        CHECKS.due("all below", c.bench.needs(4), 15);
        CHECKS.due("both below", c.bench.needs(2), 3);
    }

    private static void aNeededPatchIsNeededWithItsNeeds() {
        // The last one touches the second one alone, but that needs the first one.
        Bench b = stack(t(1, 2, 3, 4, 5), t(1, 9, 3, 4, 5), t(1, 9, 7, 3, 4, 5), t(1, 9, 7, 6, 3, 4, 5));
        CHECKS.due("by way of another one", b.bench.needs(2), 3);
        // What needs none in between moves past the whole group.
        Bench c = stack(t(1, 2, 3, 4, 5, 6, 7), t(1, 9, 3, 4, 5, 6, 7), t(1, 9, 3, 4, 5, 8, 7),
                t(1, 9, 7, 3, 4, 5, 8, 7), t(1, 9, 7, 6, 3, 4, 5, 8, 7));
        CHECKS.due("the first and the third", c.bench.needs(3), 5);
        CHECKS.due("the first alone", c.bench.needs(2), 1);
        // Moved past what it does not need, a patch lies otherwise, and is looked at there.
        Bench d = stack(t(1, 2, 3, 4, 5, 6), t(1, 2, 3, 4, 9, 6), t(2, 3, 4, 9, 6), t(7, 7, 7, 2, 3, 4, 9, 6),
                t(7, 7, 7, 2, 3, 4, 9, 8, 6));
        CHECKS.due("what was moved by others", d.bench.needs(3), 1);
        CHECKS.due("what moved it", d.bench.needs(2), 2);
        Bench e = stack(t(1, 2, 3, 4, 5, 6), t(1, 2, 3, 4, 5, 9), t(1, 8, 3, 4, 5, 9), t(1, 8, 3, 7, 5, 9),
                t(1, 8, 6, 7, 5, 9), t(1, 8, 6, 7, 4, 9));
        CHECKS.due("two that touch it, and two that do not", e.bench.needs(4), 5);
        CHECKS.due("two groups of one", e.bench.needs(3), 6);
    }

    private static void trialsMayHaveLongTexts() {
        int[] long16 = t(1, 2, 3, 4, 5, 6, 7, 8, 9, 11, 12, 13, 14, 15, 16, 17);
        int[] cut1 = t(4, 5, 6, 7, 8, 9, 11, 12, 13, 14, 15, 16, 17);
        int[] more = t(4, 5, 6, 7, 8, 9, 11, 12, 13, 14, 15, 16, 17, 21, 22, 23);
        int[] cut2 = t(4, 5, 6, 9, 11, 12, 13, 14, 15, 16, 17, 21, 22, 23);
        int[] more2 = t(4, 5, 6, 9, 11, 12, 31, 32, 13, 14, 15, 16, 17, 21, 22, 23);
        Bench b = stack(long16, cut1, more, cut2, more2);
        CHECKS.due("all orders of four apart", b.bench.orders(), 24);
        CHECKS.due("needs", b.bench.needs(3), 0);
        CHECKS.refused("a swap is refused", Checks.STATE, () -> b.bench.swap(0));
        CHECKS.due("the top is as it was", b.bench.top(15), 23);
        CHECKS.due("the names too", b.names(), "0 1 2 3");
    }

    private static void ordersAreCounted() {
        CHECKS.due("of none", new PatchBench().orders(), 1);
        CHECKS.due("of one", stack(t(1), t(2)).bench.orders(), 1);
        CHECKS.due("of two apart", stack(t(1, 2, 3), t(4, 1, 2, 3), t(4, 1, 2, 3, 5)).bench.orders(), 2);
        CHECKS.due("of two that touch", stack(t(1), t(2), t(3)).bench.orders(), 1);
        CHECKS.due("of three apart", stack(t(1, 2, 3, 4, 5), t(9, 2, 3, 4, 5), t(9, 2, 8, 4, 5),
                t(9, 2, 8, 4, 7)).bench.orders(), 6);
        CHECKS.due("of three, two of which touch", stack(t(1, 2, 3, 4, 5), t(9, 2, 3, 4, 5), t(9, 8, 3, 4, 5),
                t(9, 8, 3, 4, 7)).bench.orders(), 3);
        CHECKS.due("of four, two and two", stack(t(1, 2, 3, 4, 5), t(9, 2, 3, 4, 5), t(9, 8, 3, 4, 5),
                t(9, 8, 3, 4, 7), t(9, 8, 3, 6, 7)).bench.orders(), 6);
        Bench twice = stack(t(1, 2, 3), t(4, 1, 2, 3), t(4, 1, 2, 3, 5));
        CHECKS.due("asked once", twice.bench.orders(), 2);
        CHECKS.due("asked twice", twice.bench.orders(), 2);
        twice.bench.pop();
        CHECKS.due("asked of one then", twice.bench.orders(), 1);
        CHECKS.due("of patches without hunks", stack(t(1), t(1), t(1), t(1), t(1)).bench.orders(), 24);
        Bench b = stack(t(1), t(1), t(1), t(1), t(1), t(1));
        CHECKS.refused("of five", Checks.STATE, () -> b.bench.orders());
        CHECKS.due("needs of the fifth", b.bench.needs(4), 0);
    }

    private static void linesAreBlamed() {
        Bench b = stack(t(1, 2, 3), t(1, 9, 3), t(4, 1, 9, 3, 5));
        CHECKS.due("blames", b.blames(), "1:0 -1:0 0:1 -1:2 1:4");
        b.bench.swap(0);
        CHECKS.due("blames when swapped", b.blames(), "1:0 -1:0 0:2 -1:2 1:4");
        CHECKS.due("an empty stack", stack(t(5, 6)).blames(), "-1:0 -1:1");
        // A line that is dropped and added again elsewhere, alone, was not moved.
        CHECKS.due("one line", stack(t(1, 2, 3), t(2, 3, 1)).blames(), "-1:1 -1:2 0:2");
    }

    private static void movedLinesAreBlamedFurtherDown() {
        CHECKS.due("a block", stack(t(12, 13, 5, 6, 7), t(5, 6, 7, 12, 13)).blames(),
                "-1:2 -1:3 -1:4 -1:0 -1:1");
        CHECKS.due("one of the block is not the same", stack(t(12, 34, 5, 6, 7), t(5, 6, 7, 12, 39)).blames(),
                "-1:2 -1:3 -1:4 -1:0 0:4");
        CHECKS.due("two patches", stack(t(5, 6, 7), t(12, 13, 5, 6, 7), t(5, 6, 7, 12, 13)).blames(),
                "-1:0 -1:1 -1:2 0:0 0:1");
        // The lowest one of those that were moved to it.
        CHECKS.due("from two places", stack(t(12, 13, 5, 12, 13, 6, 7, 8, 9), t(5, 6, 7, 8, 9, 12, 13)).blames(),
                "-1:2 -1:5 -1:6 -1:7 -1:8 -1:0 -1:1");
    }

    private static void formattingIsNotToBlame() {
        CHECKS.due("another indent", stack(t(1, 12, 3), t(1, 10012, 3)).blames(), "-1:0 -1:1 -1:2");
        CHECKS.due("two hunks", stack(t(1, 12, 3, 4), t(10001, 12, 3, 20004)).blames(), "-1:0 -1:1 -1:2 -1:3");
        CHECKS.due("other words elsewhere", stack(t(1, 12, 3, 4), t(10001, 12, 3, 5)).blames(),
                "0:0 -1:1 -1:2 0:3");
        CHECKS.due("more lines elsewhere", stack(t(1, 12, 3), t(10001, 12, 3, 4)).blames(), "0:0 -1:1 -1:2 0:3");
        CHECKS.due("two lines of a hunk", stack(t(11, 12, 3), t(10011, 10012, 3)).blames(), "-1:0 -1:1 -1:2");
        CHECKS.due("in another order", stack(t(11, 12, 3), t(10012, 10011, 3)).blames(), "0:0 0:1 -1:2");
        CHECKS.due("a mark is no formatted line", stack(t(1, 3), t(50001, 3)).blames(), "0:0 -1:1");
        CHECKS.due("formatted over an added line", stack(t(1, 3), t(1, 12, 3), t(1, 30012, 3)).blames(),
                "-1:0 0:1 -1:1");
    }
}
