/** Promises 49 to 56: bytes. */
public final class BytesTest {
    private static final Checks CHECKS = new Checks("BytesTest");

    private BytesTest() {
    }

    public static void main(String[] args) {
        bytesAreAdded();
        rowsAreClearedAndRead();
        copiesAndAddsAreFound();
        theLongestMatchIsTaken();
        sizesAndSteps();
        deltasArePut();
        deltasAreChained();
        aChainCopiesTogetherWhatLiesTogether();
        aChainNeedsWhatItCopies();
        chainRefusesWhatCantBe();
        thereAreTenDeltas();
        whatIsNotThereIsRefused();
        CHECKS.end();
    }

    private static int[] r(int... bytes) {
        return bytes;
    }

    private static int[] counted(int count) {
        int[] bytes = new int[count];
        for (int i = 0; i < count; i++) {
            bytes[i] = i;
        }
        return bytes;
    }

    private static void bytesAreAdded() {
        Bench b = new Bench();
        CHECKS.due("the first", b.bench.addByte(0, 0), 1);
        CHECKS.due("the second", b.bench.addByte(0, 255), 2);
        CHECKS.due("they are there", b.row(0), "0 255");
        CHECKS.due("the other rows", b.row(1) + b.row(2) + b.row(3), "");
        CHECKS.refused("below 0", Checks.ARGUMENT, () -> b.bench.addByte(0, -1));
        CHECKS.refused("above 255", Checks.ARGUMENT, () -> b.bench.addByte(0, 256));
        b.fillRow(3, counted(39));
        CHECKS.due("the 40th", b.bench.addByte(3, 7), 40);
        CHECKS.refused("the 41st", Checks.STATE, () -> b.bench.addByte(3, 7));
        CHECKS.refused("a wrong one to a full row", Checks.ARGUMENT, () -> b.bench.addByte(3, 256));
        CHECKS.refused("row below", Checks.INDEX, () -> b.bench.addByte(-1, 256));
        CHECKS.refused("row above", Checks.INDEX, () -> b.bench.addByte(4, 256));
        CHECKS.due("nothing changed", b.bench.byteAt(3, 39), 7);
    }

    private static void rowsAreClearedAndRead() {
        Bench b = new Bench();
        b.fillRow(2, 5, 6, 7);
        CHECKS.due("byteAt", b.bench.byteAt(2, 2), 7);
        CHECKS.due("behind", b.bench.byteAt(2, 3), PatchBench.NONE);
        CHECKS.due("far behind", b.bench.byteAt(2, Integer.MAX_VALUE), PatchBench.NONE);
        CHECKS.refused("below", Checks.INDEX, () -> b.bench.byteAt(2, -1));
        CHECKS.refused("row below", Checks.INDEX, () -> b.bench.byteAt(-1, 0));
        CHECKS.refused("row above", Checks.INDEX, () -> b.bench.byteAt(4, 0));
        CHECKS.due("clear", b.bench.clear(2), 3);
        CHECKS.due("clear again", b.bench.clear(2), 0);
        CHECKS.due("nothing there", b.bench.byteAt(2, 0), PatchBench.NONE);
        CHECKS.due("add then", b.bench.addByte(2, 9), 1);
        CHECKS.refused("clear below", Checks.INDEX, () -> b.bench.clear(-1));
        CHECKS.refused("clear above", Checks.INDEX, () -> b.bench.clear(4));
    }

    /** The steps and the size of the delta between two rows; put on the first it must make the second. */
    private static void delta(int[] first, int[] second, String steps, int size) {
        Bench b = new Bench();
        b.fillRow(0, first);
        b.fillRow(1, second);
        String what = "delta of " + b.row(0) + " to " + b.row(1);
        int delta = b.bench.delta(0, 1);
        CHECKS.due("steps of the " + what, b.steps(delta), steps);
        CHECKS.due("size of the " + what, b.bench.sizeOf(delta), size);
        CHECKS.due("bytes that it makes", b.bench.putDelta(delta, 0, 2), second.length);
        CHECKS.due(what + " put", b.row(2), b.row(1));
    }

    private static void copiesAndAddsAreFound() {
        delta(r(1, 2, 3, 4), r(1, 2, 3, 4), "4000", 3);
        delta(r(1, 2, 3, 4), r(2, 3, 4), "3001", 3);
        delta(r(1, 2, 3, 4), r(3, 4), "2503", 3);
        delta(r(1, 2, 3, 4), r(9, 1, 2, 3, 8), "1509 3000 1508", 7);
        delta(r(1, 2, 3, 4, 5, 6), r(4, 5, 6, 1, 2, 3), "3003 3000", 6);
        delta(r(), r(7, 255, 0), "3507", 4);
        delta(r(1, 2, 3), r(), "", 0);
        delta(r(), r(), "", 0);
        delta(r(1, 2), r(1, 2, 1, 2), "4501", 5);
        delta(r(1, 1, 1), r(1, 1, 1, 1, 1), "3000 2501", 6);
        delta(r(1, 1, 1), r(1, 1, 1, 1, 1, 1), "3000 3000", 6);
        delta(counted(40), counted(40), "40000", 3);
    }

    private static void theLongestMatchIsTaken() {
        delta(r(1, 2, 3, 9, 1, 2, 3, 4), r(1, 2, 3, 4), "4004", 3);
        delta(r(1, 2, 3, 9, 1, 2, 3), r(1, 2, 3, 8), "3000 1508", 5);
        delta(r(5, 1, 2, 3, 4), r(1, 2, 1, 2, 3, 4), "2501 4001", 6);
        delta(r(1, 2, 3, 4, 5), r(1, 2, 4, 5, 1, 2, 3), "4501 3000", 8);
        // Greedy: the long copy from here on is taken though a longer one begins behind.
        delta(r(1, 2, 3, 7, 2, 3, 4, 5), r(1, 2, 3, 4, 5), "3000 2504", 6);
    }

    private static void sizesAndSteps() {
        Bench b = new Bench();
        b.fillRow(0, 1, 2, 3, 4);
        b.fillRow(1, 9, 8, 1, 2, 3, 4, 7);
        b.bench.delta(0, 1);
        CHECKS.due("an add", b.bench.step(0, 0), 2509);
        CHECKS.due("a copy", b.bench.step(0, 1), 4000);
        CHECKS.due("another add", b.bench.step(0, 2), 1507);
        CHECKS.due("behind", b.bench.step(0, 3), PatchBench.NONE);
        CHECKS.due("far behind", b.bench.step(0, Integer.MAX_VALUE), PatchBench.NONE);
        CHECKS.refused("below", Checks.INDEX, () -> b.bench.step(0, -1));
        CHECKS.refused("no such delta", Checks.INDEX, () -> b.bench.step(1, 0));
        CHECKS.refused("delta below", Checks.INDEX, () -> b.bench.step(-1, 0));
        CHECKS.due("size", b.bench.sizeOf(0), 8);
        CHECKS.refused("size of none", Checks.INDEX, () -> b.bench.sizeOf(1));
        CHECKS.refused("size below", Checks.INDEX, () -> b.bench.sizeOf(-1));
        b.fillRow(0, 7);
        b.fillRow(1);
        CHECKS.due("it keeps its steps", b.steps(0), "2509 4000 1507");
    }

    private static void deltasArePut() {
        Bench b = new Bench();
        b.fillRow(0, 1, 2, 3, 4, 5);
        b.fillRow(1, 9, 2, 3, 4);
        b.bench.delta(0, 1);
        b.fillRow(2, 11, 12, 13, 14);
        CHECKS.due("on another row", b.bench.putDelta(0, 2, 3), 4);
        CHECKS.due("what it makes", b.row(3), "9 12 13 14");
        CHECKS.due("the row itself stays", b.row(2), "11 12 13 14");
        CHECKS.due("on itself", b.bench.putDelta(0, 2, 2), 4);
        CHECKS.due("what it makes of itself", b.row(2), "9 12 13 14");
        b.fillRow(2, 1, 2, 3);
        CHECKS.refused("a row that is too short", Checks.STATE, () -> b.bench.putDelta(0, 2, 3));
        CHECKS.due("nothing changed", b.row(3), "9 12 13 14");
        CHECKS.refused("delta below", Checks.INDEX, () -> b.bench.putDelta(-1, 2, 3));
        CHECKS.refused("delta above", Checks.INDEX, () -> b.bench.putDelta(1, 2, 3));
        CHECKS.refused("row below", Checks.INDEX, () -> b.bench.putDelta(0, -1, 3));
        CHECKS.refused("row above", Checks.INDEX, () -> b.bench.putDelta(0, 4, 3));
        CHECKS.refused("other below", Checks.INDEX, () -> b.bench.putDelta(0, 2, -1));
        CHECKS.refused("other above", Checks.INDEX, () -> b.bench.putDelta(0, 2, 4));
        // A delta that copies nothing can be put on an empty row.
        Bench c = new Bench();
        c.fillRow(1, 5, 6);
        c.bench.delta(0, 1);
        CHECKS.due("on an empty row", c.bench.putDelta(0, 3, 3), 2);
        CHECKS.due("what it makes", c.row(3), "5 6");
    }

    private static void deltasAreChained() {
        Bench b = new Bench();
        b.fillRow(0, 1, 2, 3, 4, 5);
        b.fillRow(1, 9, 2, 3, 4, 8);
        b.fillRow(2, 3, 4, 8, 7, 9, 2, 3);
        b.bench.delta(0, 1);
        b.bench.delta(1, 2);
        CHECKS.due("the first", b.steps(0), "1509 3001 1508");
        CHECKS.due("the second", b.steps(1), "3002 1507 3000");
        CHECKS.due("its number", b.bench.chain(0, 1), 2);
        CHECKS.due("the chain", b.steps(2), "2002 3508 2001");
        CHECKS.due("its size", b.bench.sizeOf(2), 10);
        CHECKS.due("put", b.bench.putDelta(2, 0, 3), 7);
        CHECKS.due("what it makes", b.row(3), b.row(2));
        CHECKS.due("of another row", b.bench.putDelta(2, 1, 3), 7);
        CHECKS.due("what it makes of that", b.row(3), "3 4 8 7 9 2 3");
    }

    private static void aChainCopiesTogetherWhatLiesTogether() {
        Bench b = new Bench();
        b.fillRow(0, 1, 2, 3, 4, 5, 6);
        b.fillRow(1, 4, 5, 6, 1, 2, 3);
        b.bench.delta(0, 1);
        b.bench.delta(1, 0);
        CHECKS.due("there and back", b.steps(b.bench.chain(0, 1)), "6000");
        CHECKS.due("twice", b.steps(b.bench.chain(0, 0)), "6000");
        CHECKS.due("thrice", b.steps(b.bench.chain(3, 0)), "3003 3000");
        b.fillRow(2, 1, 2, 3, 4, 4, 5, 6);
        b.bench.delta(0, 2);
        CHECKS.due("once more the same place", b.steps(5), "4000 3003");
        CHECKS.due("chained", b.steps(b.bench.chain(1, 5)), "3003 1000 3000");
        // Adds that come together are one step, and a copy of one byte stays a copy.
        Bench c = new Bench();
        c.fillRow(0, 1, 2, 3);
        c.fillRow(1, 1, 2, 3, 9);
        c.fillRow(2, 2, 3, 9, 8, 2, 3, 9);
        c.bench.delta(0, 1);
        c.bench.delta(1, 2);
        CHECKS.due("the chain", c.steps(c.bench.chain(0, 1)), "2001 2509 2001 1509");
        CHECKS.due("its size", c.bench.sizeOf(2), 11);
    }

    private static void aChainNeedsWhatItCopies() {
        Bench b = new Bench();
        b.fillRow(0, 1, 2, 3, 4, 5);
        b.fillRow(1, 3, 4, 5, 1, 2, 3);
        b.fillRow(2, 5, 1, 2);
        b.bench.delta(0, 1);
        b.bench.delta(1, 2);
        CHECKS.due("the chain", b.steps(b.bench.chain(0, 1)), "1004 2000");
        b.fillRow(3, 11, 12, 13, 14);
        CHECKS.refused("a row without the place 4", Checks.STATE, () -> b.bench.putDelta(2, 3, 2));
        b.bench.addByte(3, 15);
        CHECKS.due("a row with it", b.bench.putDelta(2, 3, 2), 3);
        CHECKS.due("what it makes", b.row(2), "15 11 12");
    }

    private static void chainRefusesWhatCantBe() {
        Bench b = new Bench();
        b.fillRow(0, 1, 2, 3, 4, 5);
        b.fillRow(1, 2, 3, 4);
        b.bench.delta(0, 1);
        b.fillRow(2, 9, 3, 4, 5);
        b.bench.delta(0, 2);
        b.fillRow(3, 7, 7);
        b.bench.delta(0, 3);
        CHECKS.due("the second copies from 2 to 4", b.steps(1), "1509 3002");
        CHECKS.refused("places that the first one does not make", Checks.STATE, () -> b.bench.chain(0, 1));
        CHECKS.due("with a longer first one", b.bench.chain(2, 2), 3);
        CHECKS.due("the second alone has adds", b.steps(3), "2507");
        CHECKS.refused("just too short", Checks.STATE, () -> b.bench.chain(1, 1));
        CHECKS.refused("first below", Checks.INDEX, () -> b.bench.chain(-1, 1));
        CHECKS.refused("first above", Checks.INDEX, () -> b.bench.chain(4, 1));
        CHECKS.refused("second below", Checks.INDEX, () -> b.bench.chain(0, -1));
        CHECKS.refused("second above", Checks.INDEX, () -> b.bench.chain(0, 4));
        CHECKS.due("none made", b.bench.delta(0, 0), 4);
    }

    private static void thereAreTenDeltas() {
        Bench b = new Bench();
        b.fillRow(0, 1, 2, 3);
        for (int i = 0; i < 10; i++) {
            CHECKS.due("number", i % 2 == 0 ? b.bench.delta(0, 0) : b.bench.chain(0, 0), i);
        }
        CHECKS.refused("the 11th", Checks.STATE, () -> b.bench.delta(0, 0));
        CHECKS.refused("the 11th, chained", Checks.STATE, () -> b.bench.chain(0, 9));
        CHECKS.refused("no such row", Checks.INDEX, () -> b.bench.delta(0, 4));
        CHECKS.refused("no such delta", Checks.INDEX, () -> b.bench.chain(0, 10));
        CHECKS.due("the last one", b.steps(9), "3000");
    }

    private static void whatIsNotThereIsRefused() {
        PatchBench x = new PatchBench();
        CHECKS.refused("delta row below", Checks.INDEX, () -> x.delta(-1, 0));
        CHECKS.refused("delta row above", Checks.INDEX, () -> x.delta(4, 0));
        CHECKS.refused("delta other below", Checks.INDEX, () -> x.delta(0, -1));
        CHECKS.refused("delta other above", Checks.INDEX, () -> x.delta(0, 4));
        CHECKS.refused("chain of none", Checks.INDEX, () -> x.chain(0, 0));
        CHECKS.refused("size of none", Checks.INDEX, () -> x.sizeOf(0));
        CHECKS.refused("step of none", Checks.INDEX, () -> x.step(0, 0));
        CHECKS.refused("put of none", Checks.INDEX, () -> x.putDelta(0, 0, 0));
    }
}
