/** Promises 1 to 7: a new object, and texts. */
public final class TextsTest {
    private static final Checks CHECKS = new Checks("TextsTest");

    private TextsTest() {
    }

    public static void main(String[] args) {
        aNewObjectIsEmpty();
        linesArePutWhereToldTo();
        onlyLinesAndMarksArePut();
        aTextHasRoomForSixteenLines();
        putLooksAtTextThenLineThenRoom();
        linesAreCut();
        textsAreCopied();
        linesAreRead();
        likenessCountsCommonWords();
        likenessOfBlanksAndMarks();
        likenessRefusesWhatIsNoLine();
        CHECKS.end();
    }

    private static void aNewObjectIsEmpty() {
        PatchBench x = new PatchBench();
        for (int i = 0; i < 4; i++) {
            CHECKS.due("length of new text " + i, x.length(i), 0);
            CHECKS.due("byte of new row " + i, x.byteAt(i, 0), PatchBench.NONE);
        }
        CHECKS.due("patches", x.patches(), 0);
        CHECKS.due("height", x.height(), 0);
        CHECKS.due("top of the empty base", x.top(0), PatchBench.NONE);
        CHECKS.due("a file of a new tree", x.setFile(2, 5, PatchBench.NONE), false);
        CHECKS.refused("patch 0", Checks.INDEX, () -> x.hunks(0));
        CHECKS.refused("difference 0", Checks.INDEX, () -> x.wentTo(0, 0));
        CHECKS.refused("delta 0", Checks.INDEX, () -> x.sizeOf(0));
        CHECKS.refused("putAt ahead of any putOn", Checks.INDEX, () -> x.putAt(0));
        CHECKS.due("NONE", PatchBench.NONE, -1);
        CHECKS.due("ways", PatchBench.LEAST + 10 * PatchBench.UNIQUE + 100 * PatchBench.RARE, 210);
    }

    private static void linesArePutWhereToldTo() {
        Bench b = new Bench();
        CHECKS.due("first put", b.bench.put(1, 0, 12), 1);
        CHECKS.due("put ahead", b.bench.put(1, 0, 0), 2);
        CHECKS.due("put between", b.bench.put(1, 1, 39999), 3);
        CHECKS.due("put behind", b.bench.put(1, 3, 50002), 4);
        CHECKS.due("the text", b.text(1), "0 39999 12 50002");
        CHECKS.due("another text", b.text(0), "");
    }

    private static void onlyLinesAndMarksArePut() {
        int[] good = {0, 1, 9, 11, 99, 123, 9999, 10001, 19999, 20005, 31234, 39999, 50001, 50002, 50003};
        int[] bad = {-1, 10, 100, 101, 1000, 1011, 1101, 1110, 1230, 10000, 10010, 10101, 20000, 30000, 30120,
            40000, 40001, 49999, 50000, 50004, 50011, 60001, 100001, Integer.MIN_VALUE, Integer.MAX_VALUE};
        for (int line : good) {
            CHECKS.due("put " + line, new PatchBench().put(0, 0, line), 1);
        }
        for (int line : bad) {
            CHECKS.refused("put " + line, Checks.ARGUMENT, () -> new PatchBench().put(0, 0, line));
        }
    }

    private static void aTextHasRoomForSixteenLines() {
        Bench b = new Bench();
        b.fill(3, 1, 2, 3, 4, 5, 6, 7, 8, 9, 11, 12, 13, 14, 15, 16);
        CHECKS.due("the 16th line", b.bench.put(3, 0, 17), 16);
        CHECKS.refused("the 17th line", Checks.STATE, () -> b.bench.put(3, 16, 18));
        CHECKS.due("nothing changed", b.text(3), "17 1 2 3 4 5 6 7 8 9 11 12 13 14 15 16");
        CHECKS.due("cut makes room", b.bench.cut(3, 0), 17);
        CHECKS.due("put again", b.bench.put(3, 15, 18), 16);
    }

    private static void putLooksAtTextThenLineThenRoom() {
        Bench b = new Bench();
        b.fill(0, 1, 1, 1, 1, 1, 1, 1, 1, 1, 1, 1, 1, 1, 1, 1, 1);
        CHECKS.refused("text below", Checks.INDEX, () -> b.bench.put(-1, 0, 10));
        CHECKS.refused("text above", Checks.INDEX, () -> b.bench.put(4, 0, 10));
        CHECKS.refused("place below", Checks.INDEX, () -> b.bench.put(0, -1, 10));
        CHECKS.refused("place above", Checks.INDEX, () -> b.bench.put(0, 17, 10));
        CHECKS.refused("place above an empty text", Checks.INDEX, () -> b.bench.put(1, 1, 1));
        CHECKS.refused("a wrong line into a full text", Checks.ARGUMENT, () -> b.bench.put(0, 16, 10));
    }

    private static void linesAreCut() {
        Bench b = new Bench();
        b.fill(2, 1, 2, 3);
        CHECKS.due("cut in the middle", b.bench.cut(2, 1), 2);
        CHECKS.due("the rest", b.text(2), "1 3");
        CHECKS.due("cut the last", b.bench.cut(2, 1), 3);
        CHECKS.refused("place behind", Checks.INDEX, () -> b.bench.cut(2, 1));
        CHECKS.refused("place below", Checks.INDEX, () -> b.bench.cut(2, -1));
        CHECKS.refused("text below", Checks.INDEX, () -> b.bench.cut(-1, 0));
        CHECKS.refused("text above", Checks.INDEX, () -> b.bench.cut(4, 0));
        CHECKS.refused("an empty text", Checks.INDEX, () -> b.bench.cut(0, 0));
        CHECKS.due("what stays", b.text(2), "1");
    }

    private static void textsAreCopied() {
        Bench b = new Bench();
        b.fill(0, 1, 2, 3);
        b.fill(1, 7, 7, 7, 7);
        CHECKS.due("copy", b.bench.copy(0, 1), 3);
        CHECKS.due("the copy", b.text(1), "1 2 3");
        b.bench.put(1, 0, 9);
        CHECKS.due("the first is another one", b.text(0), "1 2 3");
        CHECKS.due("copy on itself", b.bench.copy(1, 1), 4);
        CHECKS.due("the same still", b.text(1), "9 1 2 3");
        CHECKS.due("copy an empty one", b.bench.copy(3, 0), 0);
        CHECKS.due("emptied", b.text(0), "");
        CHECKS.refused("first below", Checks.INDEX, () -> b.bench.copy(-1, 0));
        CHECKS.refused("first above", Checks.INDEX, () -> b.bench.copy(4, 0));
        CHECKS.refused("second below", Checks.INDEX, () -> b.bench.copy(0, -1));
        CHECKS.refused("second above", Checks.INDEX, () -> b.bench.copy(0, 4));
    }

    private static void linesAreRead() {
        Bench b = new Bench();
        b.fill(1, 5, 0, 50003);
        CHECKS.due("length", b.bench.length(1), 3);
        CHECKS.due("line 0", b.bench.lineAt(1, 0), 5);
        CHECKS.due("line 1", b.bench.lineAt(1, 1), 0);
        CHECKS.due("line 2", b.bench.lineAt(1, 2), 50003);
        CHECKS.refused("behind", Checks.INDEX, () -> b.bench.lineAt(1, 3));
        CHECKS.refused("below", Checks.INDEX, () -> b.bench.lineAt(1, -1));
        CHECKS.refused("text below", Checks.INDEX, () -> b.bench.lineAt(-1, 0));
        CHECKS.refused("text above", Checks.INDEX, () -> b.bench.lineAt(4, 0));
        CHECKS.refused("length below", Checks.INDEX, () -> b.bench.length(-1));
        CHECKS.refused("length above", Checks.INDEX, () -> b.bench.length(4));
    }

    private static void likenessCountsCommonWords() {
        PatchBench x = new PatchBench();
        CHECKS.due("the same", x.likeness(1234, 1234), 100);
        CHECKS.due("another indent", x.likeness(31234, 1234), 100);
        CHECKS.due("nothing common", x.likeness(12, 34), 0);
        CHECKS.due("one of two", x.likeness(12, 13), 50);
        CHECKS.due("with a gap", x.likeness(123, 13), 80);
        CHECKS.due("not in the order", x.likeness(12, 21), 50);
        CHECKS.due("longest row with gaps", x.likeness(1234, 2413), 50);
        CHECKS.due("three of four", x.likeness(1234, 1342), 75);
        CHECKS.due("words that come twice", x.likeness(1212, 2121), 75);
        CHECKS.due("one word often", x.likeness(1, 1111), 40);
        CHECKS.due("all alike", x.likeness(111, 1111), 85);
        CHECKS.due("one of one and two", x.likeness(1, 12), 66);
        CHECKS.due("each way round", x.likeness(12, 1), 66);
        CHECKS.due("crossing", x.likeness(1221, 2112), 50);
    }

    private static void likenessOfBlanksAndMarks() {
        PatchBench x = new PatchBench();
        CHECKS.due("both blank", x.likeness(0, 0), 100);
        CHECKS.due("one blank", x.likeness(0, 1), 0);
        CHECKS.due("the other blank", x.likeness(12, 0), 0);
        CHECKS.due("the same mark", x.likeness(50001, 50001), 100);
        CHECKS.due("other marks", x.likeness(50001, 50002), 0);
        CHECKS.due("a mark and a line", x.likeness(50001, 1), 0);
        CHECKS.due("a line and a mark", x.likeness(3, 50003), 0);
        CHECKS.due("a mark and a blank", x.likeness(50003, 0), 0);
    }

    private static void likenessRefusesWhatIsNoLine() {
        PatchBench x = new PatchBench();
        CHECKS.refused("first", Checks.ARGUMENT, () -> x.likeness(10, 1));
        CHECKS.refused("second", Checks.ARGUMENT, () -> x.likeness(1, 40001));
        CHECKS.refused("first below", Checks.ARGUMENT, () -> x.likeness(-1, 1));
        CHECKS.refused("second below", Checks.ARGUMENT, () -> x.likeness(50001, -5));
    }
}
