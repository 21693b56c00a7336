import java.util.Arrays;

/** Promises 49 to 56: each sentence of the document that names a boundary of bytes. */
public final class ByteEdgesTest {
    private static final Checks CHECKS = new Checks("ByteEdgesTest");

    private ByteEdgesTest() {
    }

    public static void main(String[] args) {
        bytesFromTheLeastToTheGreatest();
        rowsFromEmptyToFull();
        rowsAreReadFromTheFirstToBehindTheLast();
        threeBytesAreCopied();
        theLowestOfTheLongestPlaces();
        copiesReachFromTheFirstToTheLastByte();
        addsAreOneStep();
        sizesFromNothingOn();
        stepsAreReadToBehindTheLast();
        fromTheFirstToTheTenthDelta();
        aRowIsJustLongEnough();
        puttingOnItself();
        aChainCopiesWhatIsMade();
        aChainNeedsWhatItCopies();
        aChainPutsBytesTogether();
        CHECKS.end();
    }

    private static int[] r(int... bytes) {
        return bytes;
    }

    private static int[] counted(int count) {
        int[] bytes = new int[count];
        for (int i = 0; i < count; i++) {
            bytes[i] = i;
        }
        return bytes;
    }

    private static int[] same(int count, int value) {
        int[] bytes = new int[count];
        Arrays.fill(bytes, value);
        return bytes;
    }

    private static void bytesFromTheLeastToTheGreatest() {
        CHECKS.says("`value`: 0 to 255");
        for (int row = 0; row <= 3; row++) {
            int asked = row;
            Bench b = new Bench();
            CHECKS.due("0", b.bench.addByte(row, 0), 1);
            CHECKS.due("255", b.bench.addByte(row, 255), 2);
            for (int value : new int[] {-1, 256, Integer.MIN_VALUE, Integer.MAX_VALUE}) {
                CHECKS.refused("byte " + value, Checks.ARGUMENT, () -> b.bench.addByte(asked, value));
            }
            CHECKS.due("the row", b.row(row), "0 255");
            CHECKS.due("the others", b.row((row + 1) % 4) + b.row((row + 2) % 4) + b.row((row + 3) % 4), "");
        }
        CHECKS.refused("row -1", Checks.INDEX, () -> new PatchBench().addByte(-1, 0));
        CHECKS.refused("row 4", Checks.INDEX, () -> new PatchBench().addByte(4, 0));
    }

    private static void rowsFromEmptyToFull() {
        CHECKS.says("Rows are 0 to 3, of up to 40 bytes, 0 to 255, empty at first.");
        for (int row = 0; row <= 3; row++) {
            int asked = row;
            Bench b = new Bench();
            CHECKS.due("empty at first", b.bench.clear(row), 0);
            for (int i = 1; i <= 40; i++) {
                CHECKS.due("byte " + i, b.bench.addByte(row, 200 + i), i);
            }
            CHECKS.refused("the 41st", Checks.STATE, () -> b.bench.addByte(asked, 0));
            CHECKS.refused("the 41st, no byte", Checks.ARGUMENT, () -> b.bench.addByte(asked, 256));
            CHECKS.due("the last one", b.bench.byteAt(row, 39), 240);
            CHECKS.due("another row has room", b.bench.addByte((row + 1) % 4, 0), 1);
            CHECKS.due("clear", b.bench.clear(row), 40);
            CHECKS.due("clear again", b.bench.clear(row), 0);
            CHECKS.due("it has room again", b.bench.addByte(row, 7), 1);
            CHECKS.due("the first", b.bench.byteAt(row, 0), 7);
            CHECKS.due("nothing else", b.bench.byteAt(row, 1), PatchBench.NONE);
        }
        CHECKS.refused("clear -1", Checks.INDEX, () -> new PatchBench().clear(-1));
        CHECKS.refused("clear 4", Checks.INDEX, () -> new PatchBench().clear(4));
    }

    private static void rowsAreReadFromTheFirstToBehindTheLast() {
        CHECKS.says("Returns 0 to 255; NONE behind the last one.");
        Bench b = new Bench();
        b.fillRow(3, counted(40));
        CHECKS.due("the first", b.bench.byteAt(3, 0), 0);
        CHECKS.due("the last", b.bench.byteAt(3, 39), 39);
        CHECKS.due("behind it", b.bench.byteAt(3, 40), PatchBench.NONE);
        CHECKS.due("far behind it", b.bench.byteAt(3, Integer.MAX_VALUE), PatchBench.NONE);
        CHECKS.due("of an empty row", b.bench.byteAt(0, 0), PatchBench.NONE);
        CHECKS.refused("place -1", Checks.INDEX, () -> b.bench.byteAt(3, -1));
        CHECKS.refused("place -1 of an empty row", Checks.INDEX, () -> b.bench.byteAt(0, -1));
        CHECKS.refused("the least place", Checks.INDEX, () -> b.bench.byteAt(3, Integer.MIN_VALUE));
        CHECKS.refused("row -1", Checks.INDEX, () -> b.bench.byteAt(-1, 0));
        CHECKS.refused("row 4", Checks.INDEX, () -> b.bench.byteAt(4, 0));
    }

    private static void delta(int[] first, int[] second, String steps, int size) {
        Bench b = new Bench();
        b.fillRow(0, first);
        b.fillRow(3, second);
        String what = "delta of " + b.row(0) + " to " + b.row(3);
        CHECKS.due("number of the " + what, b.bench.delta(0, 3), 0);
        CHECKS.due("steps of the " + what, b.steps(0), steps);
        CHECKS.due("size of the " + what, b.bench.sizeOf(0), size);
        CHECKS.due("bytes that it makes", b.bench.putDelta(0, 0, 1), second.length);
        CHECKS.due("what comes of the " + what, b.row(1), b.row(3));
    }

    private static void threeBytesAreCopied() {
        CHECKS.says("with 3 bytes or more they are copied, otherwise one byte is added, and so on behind that");
        delta(r(1, 2, 3), r(1, 2, 3), "3000", 3);
        delta(r(1, 2), r(1, 2), "2501", 3);
        delta(r(1), r(1), "1501", 2);
        delta(r(1, 2, 3, 4), r(1, 2, 9), "3501", 4);
        delta(r(1, 2, 3, 4), r(1, 2, 3, 9), "3000 1509", 5);
        delta(r(1, 2, 3, 4), r(2, 3), "2502", 3);
        delta(r(1, 2, 3, 4), r(2, 3, 4), "3001", 3);
        // One byte is added, and from the next one on there are three.
        delta(r(5, 6, 1, 2, 3), r(6, 1, 9, 1, 2, 3), "3506 3002", 7);
        delta(r(1, 2, 8, 2, 3, 4), r(1, 2, 3, 4), "1501 3003", 5);
    }

    private static void theLowestOfTheLongestPlaces() {
        CHECKS.says("of the places of the first row at which the most bytes are the same as those from here on, the lowest "
                + "one");
        delta(r(1, 2, 3, 1, 2, 3), r(1, 2, 3), "3000", 3);
        delta(r(9, 1, 2, 3, 8, 1, 2, 3), r(1, 2, 3), "3001", 3);
        delta(r(1, 2, 3, 9, 1, 2, 3, 4), r(1, 2, 3, 4), "4004", 3);
        delta(r(1, 2, 3, 4, 9, 1, 2, 3), r(1, 2, 3, 4), "4000", 3);
        delta(r(1, 1, 1, 1), r(1, 1, 1), "3000", 3);
        delta(r(1, 1, 1), r(1, 1, 1, 1), "3000 1501", 5);
        delta(same(40, 7), same(40, 7), "40000", 3);
        delta(same(39, 7), same(40, 7), "39000 1507", 5);
        delta(same(20, 7), same(40, 7), "20000 20000", 6);
        delta(same(3, 7), same(40, 7), "3000 3000 3000 3000 3000 3000 3000 3000 3000 3000 3000 3000 3000 1507", 41);
    }

    private static void copiesReachFromTheFirstToTheLastByte() {
        CHECKS.says("1000 times how many bytes it copies or adds, and added for a copy the place of the first one in the "
                + "first row, for an add 500 and the first byte");
        delta(counted(40), counted(40), "40000", 3);
        delta(counted(40), r(37, 38, 39), "3037", 3);
        delta(counted(40), r(38, 39), "2538", 3);
        delta(counted(40), r(0, 1, 2), "3000", 3);
        delta(counted(40), r(255), "1755", 2);
        delta(counted(40), r(37, 38, 39, 0, 1, 2), "3037 3000", 6);
        delta(r(), r(0), "1500", 2);
        delta(r(), same(40, 255), "40755", 41);
        delta(r(0), r(255, 0), "2755", 3);
    }

    private static void addsAreOneStep() {
        CHECKS.says("Copies and adds are its steps; adds that follow one another are one step.");
        delta(r(1, 2, 3), r(9, 8, 1, 2, 3, 7, 6), "2509 3000 2507", 9);
        delta(r(1, 2, 3), r(1, 2, 3, 9, 1, 2, 3), "3000 1509 3000", 8);
        delta(r(1, 2, 3), r(1, 2, 3, 1, 2, 3), "3000 3000", 6);
        delta(r(1, 2, 3), r(1, 2, 1, 2, 3), "2501 3000", 6);
        delta(r(1, 2, 3), r(1, 2, 3, 1, 2), "3000 2501", 6);
    }

    private static void sizesFromNothingOn() {
        CHECKS.says("Its size is 3 for each copy, and 1, and as many as its bytes, for each add.");
        delta(r(), r(), "", 0);
        delta(counted(40), r(), "", 0);
        delta(r(), r(5), "1505", 2);
        delta(r(), counted(40), "40500", 41);
        delta(counted(3), counted(3), "3000", 3);
    }

    private static void stepsAreReadToBehindTheLast() {
        CHECKS.says("NONE behind the last step.");
        Bench b = new Bench();
        b.fillRow(0, 1, 2, 3);
        b.fillRow(1, 9, 1, 2, 3, 8);
        b.bench.delta(0, 1);
        b.bench.delta(0, 2);
        CHECKS.due("the first", b.bench.step(0, 0), 1509);
        CHECKS.due("the second", b.bench.step(0, 1), 3000);
        CHECKS.due("the last", b.bench.step(0, 2), 1508);
        CHECKS.due("behind it", b.bench.step(0, 3), PatchBench.NONE);
        CHECKS.due("far behind it", b.bench.step(0, Integer.MAX_VALUE), PatchBench.NONE);
        CHECKS.due("of none", b.bench.step(1, 0), PatchBench.NONE);
        CHECKS.due("size of none", b.bench.sizeOf(1), 0);
        CHECKS.refused("step -1", Checks.INDEX, () -> b.bench.step(0, -1));
        CHECKS.refused("step -1 of none", Checks.INDEX, () -> b.bench.step(1, -1));
        CHECKS.refused("the least step", Checks.INDEX, () -> b.bench.step(0, Integer.MIN_VALUE));
        CHECKS.refused("delta -1", Checks.INDEX, () -> b.bench.step(-1, 0));
        CHECKS.refused("delta 2", Checks.INDEX, () -> b.bench.step(2, 0));
        CHECKS.refused("size of delta -1", Checks.INDEX, () -> b.bench.sizeOf(-1));
        CHECKS.refused("size of delta 2", Checks.INDEX, () -> b.bench.sizeOf(2));
        CHECKS.says("A delta keeps its steps");
        b.fillRow(0, 7);
        b.fillRow(1, 6);
        CHECKS.due("when the rows change", b.steps(0), "1509 3000 1508");
    }

    private static void fromTheFirstToTheTenthDelta() {
        CHECKS.says("deltas are numbered from 0, there can be 10");
        Bench b = new Bench();
        b.fillRow(0, 1, 2, 3);
        for (int i = 0; i < 10; i++) {
            int next = i;
            CHECKS.refused("the one behind the last", Checks.INDEX, () -> b.bench.sizeOf(next));
            CHECKS.due("number", i < 9 ? b.bench.delta(0, 0) : b.bench.chain(0, 8), i);
        }
        CHECKS.refused("the eleventh", Checks.STATE, () -> b.bench.delta(0, 0));
        CHECKS.refused("the eleventh, a chain", Checks.STATE, () -> b.bench.chain(9, 0));
        CHECKS.refused("of no row", Checks.INDEX, () -> b.bench.delta(-1, 0));
        CHECKS.refused("to no row", Checks.INDEX, () -> b.bench.delta(0, 4));
        CHECKS.refused("of no delta", Checks.INDEX, () -> b.bench.chain(10, 0));
        CHECKS.refused("to no delta", Checks.INDEX, () -> b.bench.chain(0, -1));
        CHECKS.refused("delta 10", Checks.INDEX, () -> b.bench.sizeOf(10));
        CHECKS.due("the first", b.steps(0), "3000");
        CHECKS.due("the tenth", b.steps(9), "3000");
        CHECKS.due("put", b.bench.putDelta(9, 0, 3), 3);
    }

    private static void aRowIsJustLongEnough() {
        CHECKS.says("It can be put on a row that is long enough for its copies.");
        Bench b = new Bench();
        b.fillRow(0, 9, 8, 1, 2, 3, 4, 7);
        b.fillRow(1, 1, 2, 3, 4, 5);
        b.bench.delta(0, 1);
        CHECKS.due("it copies from 2 to 5", b.steps(0), "4002 1505");
        b.fillRow(2, 11, 12, 13, 14, 15);
        CHECKS.refused("five bytes", Checks.STATE, () -> b.bench.putDelta(0, 2, 3));
        CHECKS.refused("none", Checks.STATE, () -> b.bench.putDelta(0, 3, 2));
        CHECKS.due("nothing changed", b.row(2) + "/" + b.row(3), "11 12 13 14 15/");
        b.bench.addByte(2, 16);
        CHECKS.due("six bytes", b.bench.putDelta(0, 2, 3), 5);
        CHECKS.due("what it makes", b.row(3), "13 14 15 16 5");
        // The one that copies farthest need not be the last.
        Bench c = new Bench();
        c.fillRow(0, counted(40));
        c.fillRow(1, 37, 38, 39, 0, 1, 2);
        c.bench.delta(0, 1);
        c.fillRow(2, counted(39));
        CHECKS.refused("39 bytes", Checks.STATE, () -> c.bench.putDelta(0, 2, 3));
        c.bench.addByte(2, 99);
        CHECKS.due("40 bytes", c.bench.putDelta(0, 2, 3), 6);
        CHECKS.due("what it makes", c.row(3), "37 38 99 0 1 2");
        // What copies nothing can be put on an empty row, and what makes nothing too.
        Bench d = new Bench();
        d.fillRow(1, same(40, 255));
        d.bench.delta(0, 1);
        d.bench.delta(1, 0);
        CHECKS.due("40 adds on nothing", d.bench.putDelta(0, 2, 3), 40);
        CHECKS.due("the last of them", d.bench.byteAt(3, 39), 255);
        CHECKS.due("nothing on nothing", d.bench.putDelta(1, 2, 3), 0);
        CHECKS.due("it is empty", d.bench.byteAt(3, 0), PatchBench.NONE);
    }

    private static void puttingOnItself() {
        CHECKS.says("0 to 3, perhaps the same");
        for (int row = 0; row <= 3; row++) {
            Bench b = new Bench();
            int other = (row + 1) % 4;
            b.fillRow(row, 1, 2, 3, 4, 5, 6);
            b.fillRow(other, 4, 5, 6, 1, 2, 3);
            b.bench.delta(row, other);
            CHECKS.due("put on itself", b.bench.putDelta(0, row, row), 6);
            CHECKS.due("what it makes", b.row(row), "4 5 6 1 2 3");
            CHECKS.due("put on itself again", b.bench.putDelta(0, row, row), 6);
            CHECKS.due("what it makes", b.row(row), "1 2 3 4 5 6");
            b.fillRow(row, 1, 2, 3, 4, 5);
            int asked = row;
            CHECKS.refused("too short", Checks.STATE, () -> b.bench.putDelta(0, asked, asked));
            CHECKS.due("nothing changed", b.row(row), "1 2 3 4 5");
        }
    }

    private static void aChainCopiesWhatIsMade() {
        CHECKS.says("a byte that the second one copies comes as the first one makes it");
        Bench b = new Bench();
        b.fillRow(0, 1, 2, 3, 4);
        b.fillRow(1, 9, 8, 7, 1, 2, 3);
        b.fillRow(2, 8, 7, 1, 2, 6);
        b.bench.delta(0, 1);
        b.bench.delta(1, 2);
        CHECKS.due("the first", b.steps(0), "3509 3000");
        CHECKS.due("the second", b.steps(1), "4001 1506");
        CHECKS.due("the chain", b.steps(b.bench.chain(0, 1)), "2508 2000 1506");
        CHECKS.due("its size", b.bench.sizeOf(2), 8);
        b.fillRow(3, 11, 12);
        CHECKS.due("put on two bytes", b.bench.putDelta(2, 3, 0), 5);
        CHECKS.due("what it makes", b.row(0), "8 7 11 12 6");
        b.fillRow(3, 11);
        CHECKS.refused("put on one byte", Checks.STATE, () -> b.bench.putDelta(2, 3, 0));
    }

    private static void aChainNeedsWhatItCopies() {
        CHECKS.says("if the second one copies from places that the first one does not make");
        Bench b = new Bench();
        b.fillRow(0, 1, 2, 3, 4);
        b.fillRow(1, 9, 1, 2, 3);
        b.fillRow(2, 1, 2, 3);
        b.bench.delta(0, 1);
        b.bench.delta(0, 2);
        b.bench.delta(1, 2);
        b.bench.delta(0, 3);
        CHECKS.due("copies from 1 to 3", b.steps(2), "3001");
        CHECKS.due("four bytes are made", b.bench.chain(0, 2), 4);
        CHECKS.due("the chain", b.steps(4), "3000");
        CHECKS.refused("three bytes are made", Checks.STATE, () -> b.bench.chain(1, 2));
        CHECKS.refused("none is made", Checks.STATE, () -> b.bench.chain(3, 2));
        CHECKS.refused("none is made, and one wanted", Checks.STATE, () -> b.bench.chain(3, 1));
        CHECKS.due("nothing wanted of three", b.bench.chain(1, 3), 5);
        CHECKS.due("nothing wanted of none", b.bench.chain(3, 3), 6);
        CHECKS.due("no steps", b.steps(5) + b.steps(6), "");
        b.fillRow(3, 7, 7);
        b.fillRow(2);
        b.bench.delta(2, 3);
        CHECKS.due("adds alone, of none", b.bench.chain(3, 7), 8);
        CHECKS.due("the adds", b.steps(8), "2507");
    }

    private static void aChainPutsBytesTogether() {
        CHECKS.says("In the steps of a chain bytes are copied together as long as they come from places one behind the "
                + "other, and added together as long as they are added.");
        Bench b = new Bench();
        b.fillRow(0, 1, 2, 3, 4, 5, 6);
        b.fillRow(1, 4, 5, 6, 1, 2, 3);
        b.fillRow(2, 5, 6, 1, 2);
        b.bench.delta(0, 1);
        b.bench.delta(1, 0);
        b.bench.delta(1, 2);
        CHECKS.due("there", b.steps(0), "3003 3000");
        CHECKS.due("there and back", b.steps(b.bench.chain(0, 1)), "6000");
        CHECKS.due("its size", b.bench.sizeOf(3), 3);
        CHECKS.due("two and two", b.steps(b.bench.chain(0, 2)), "2004 2000");
        CHECKS.due("its size", b.bench.sizeOf(4), 6);
        b.fillRow(3, same(40, 6));
        b.fillRow(2, 6);
        b.bench.delta(2, 3);
        CHECKS.due("forty adds", b.steps(b.bench.chain(2, 5)), "40506");
        CHECKS.due("their size", b.bench.sizeOf(6), 41);
        Bench c = new Bench();
        c.fillRow(0, 1, 1, 1);
        c.fillRow(1, same(40, 1));
        c.bench.delta(0, 1);
        c.bench.delta(1, 0);
        CHECKS.due("the first three", c.steps(c.bench.chain(0, 1)), "3000");
        // The same place twice is not one behind the other.
        c.fillRow(2, 5, 6, 7);
        c.fillRow(3, 5, 6, 7, 5, 6, 7);
        c.bench.delta(2, 3);
        CHECKS.due("the same three twice", c.steps(c.bench.chain(2, 3)), "3000 3000");
    }
}
