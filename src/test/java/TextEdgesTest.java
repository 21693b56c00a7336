/** Promises 1 to 7: each sentence of the document that names a boundary of lines and texts. */
public final class TextEdgesTest {
    private static final Checks CHECKS = new Checks("TextEdgesTest");
    private static final int LEAST_TRIED = -12000, MOST_TRIED = 70000;
    /** An object answers 512 calls. */
    private static final int CALLS = 512;

    private TextEdgesTest() {
    }

    public static void main(String[] args) {
        allIsEmptyAtFirst();
        theLastCallIsAnswered();
        justTheseNumbersAreLines();
        blanksHaveNoIndent();
        thereAreThreeMarks();
        thereAreFourTexts();
        aTextHasUpToSixteenLines();
        linesArePutFromTheFirstToBehindTheLast();
        theFirstAndTheLastLineAreCut();
        fullAndEmptyTextsAreCopied();
        theFirstAndTheLastLineAreRead();
        likenessIsRoundedDown();
        likenessCountsTheLongestRow();
        likenessGoesFromNothingToAll();
        blanksAndMarksAreAlikeOrNot();
        CHECKS.end();
    }

    private static void allIsEmptyAtFirst() {
        CHECKS.says("Empty texts, trees and rows, no patches; an empty base.");
        PatchBench x = new PatchBench();
        for (int i = 0; i < 4; i++) {
            int text = i;
            CHECKS.due("length of text " + i, x.length(i), 0);
            CHECKS.refused("line 0 of text " + i, Checks.INDEX, () -> x.lineAt(text, 0));
            CHECKS.due("byte 0 of row " + i, x.byteAt(i, 0), PatchBench.NONE);
            CHECKS.due("bytes of row " + i, x.clear(i), 0);
        }
        for (int file = 0; file < 18; file++) {
            CHECKS.due("file " + file, x.setFile(file / 6, file % 6, PatchBench.NONE), false);
        }
        CHECKS.due("patches", x.patches(), 0);
        CHECKS.due("height", x.height(), 0);
        CHECKS.due("the base", x.top(0), PatchBench.NONE);
        CHECKS.due("a patch of no lines", x.make(0, 1, PatchBench.LEAST), 0);
        CHECKS.due("it fits on the base", x.push(0), 0);
        x.put(0, 0, 1);
        CHECKS.due("another object", new PatchBench().length(0), 0);
    }

    private static void theLastCallIsAnswered() {
        CHECKS.says("An object is used for at most 512 calls after it has been made");
        PatchBench x = new PatchBench();
        for (int call = 0; call < CALLS - 2; call += 2) {
            x.put(3, 0, 1);
            x.cut(3, 0);
        }
        CHECKS.due("the 511th call", x.put(3, 0, 12), 1);
        CHECKS.due("the 512th call", x.lineAt(3, 0), 12);
    }

    private static void justTheseNumbersAreLines() {
        CHECKS.says("A line has an indent, 0 to 3, and up to 4 words, 1 to 9.");
        boolean[] isLine = new boolean[MOST_TRIED];
        int lines = 0;
        for (int indent = 0; indent <= 3; indent++) {
            for (int words = 1; words <= 9999; words++) {
                isLine[10000 * indent + words] = ("" + words).indexOf('0') < 0;
                lines += isLine[10000 * indent + words] ? 1 : 0;
            }
        }
        CHECKS.due("so many lines with words", lines, 4 * (9 + 9 * 9 + 9 * 9 * 9 + 9 * 9 * 9 * 9));
        isLine[0] = true;
        for (int mark = 50001; mark <= 50003; mark++) {
            isLine[mark] = true;
        }
        PatchBench x = new PatchBench();
        for (int number = LEAST_TRIED; number < MOST_TRIED; number++) {
            if (number % CALLS == 0) {
                x = new PatchBench();
            }
            PatchBench asked = x;
            int tried = number;
            boolean isTaken = !Checks.outcome(() -> asked.likeness(tried, 0)).startsWith("throws");
            CHECKS.due(number + " is a line", isTaken, number >= 0 && isLine[number]);
        }
        put(Integer.MIN_VALUE, false);
        put(Integer.MAX_VALUE, false);
    }

    private static void put(int line, boolean isTaken) {
        Bench b = new Bench();
        if (isTaken) {
            CHECKS.due("put " + line, b.bench.put(0, 0, line), 1);
            CHECKS.due("put " + line + " is there", b.bench.lineAt(0, 0), line);
        } else {
            CHECKS.refused("put " + line, Checks.ARGUMENT, () -> b.bench.put(0, 0, line));
            CHECKS.due("put " + line + " changed nothing", b.bench.length(0), 0);
        }
    }

    private static void blanksHaveNoIndent() {
        CHECKS.says("a line without words is blank, has the indent 0, and the number 0");
        put(0, true);
        put(-1, false);
        put(1, true);
        put(9999, true);
        put(10000, false);
        put(10001, true);
        put(20000, false);
        put(30000, false);
        put(39999, true);
        put(40000, false);
    }

    private static void thereAreThreeMarks() {
        CHECKS.says("Besides there are the three marks 50001, 50002 and 50003");
        put(50000, false);
        put(50001, true);
        put(50002, true);
        put(50003, true);
        put(50004, false);
    }

    private static void thereAreFourTexts() {
        CHECKS.says("Texts are 0 to 3");
        Bench b = new Bench();
        for (int text = 0; text <= 3; text++) {
            CHECKS.due("put into text " + text, b.bench.put(text, 0, 1 + text), 1);
        }
        CHECKS.due("each has its line", b.text(0) + " " + b.text(1) + " " + b.text(2) + " " + b.text(3), "1 2 3 4");
        CHECKS.refused("text -1", Checks.INDEX, () -> b.bench.length(-1));
        CHECKS.refused("text 4", Checks.INDEX, () -> b.bench.length(4));
    }

    private static void aTextHasUpToSixteenLines() {
        CHECKS.says("rows of up to 16 lines");
        for (int text = 0; text <= 3; text++) {
            Bench b = new Bench();
            for (int i = 0; i < 16; i++) {
                CHECKS.due("line " + i, b.bench.put(text, i, 11 + i % 9), i + 1);
            }
            int full = text;
            CHECKS.refused("the 17th at the end", Checks.STATE, () -> b.bench.put(full, 16, 1));
            CHECKS.refused("the 17th at the beginning", Checks.STATE, () -> b.bench.put(full, 0, 1));
            CHECKS.due("16 lines still", b.bench.length(text), 16);
            CHECKS.due("the first", b.bench.lineAt(text, 0), 11);
            CHECKS.due("the last", b.bench.lineAt(text, 15), 17);
            CHECKS.due("another text has room", b.bench.put((text + 1) % 4, 0, 1), 1);
        }
    }

    private static void linesArePutFromTheFirstToBehindTheLast() {
        CHECKS.says("`place`: 0 to its length");
        Bench b = new Bench();
        CHECKS.refused("place 1 of an empty text", Checks.INDEX, () -> b.bench.put(0, 1, 5));
        CHECKS.due("place 0 of an empty text", b.bench.put(0, 0, 5), 1);
        CHECKS.refused("place 2 of one line", Checks.INDEX, () -> b.bench.put(0, 2, 6));
        CHECKS.due("behind it", b.bench.put(0, 1, 6), 2);
        CHECKS.due("ahead of both", b.bench.put(0, 0, 4), 3);
        CHECKS.refused("place -1", Checks.INDEX, () -> b.bench.put(0, -1, 3));
        CHECKS.due("the text", b.text(0), "4 5 6");
        b.fill(1, 1, 2, 3, 4, 5, 6, 7, 8, 9, 1, 2, 3, 4, 5, 6);
        CHECKS.refused("place 16 of 15 lines", Checks.INDEX, () -> b.bench.put(1, 16, 7));
        CHECKS.due("place 15 of 15 lines", b.bench.put(1, 15, 7), 16);
        CHECKS.due("it is the last one", b.bench.lineAt(1, 15), 7);
        CHECKS.refused("place 17 of a full text", Checks.INDEX, () -> b.bench.put(1, 17, 7));
        CHECKS.refused("place 16 of a full text", Checks.STATE, () -> b.bench.put(1, 16, 7));
    }

    private static void theFirstAndTheLastLineAreCut() {
        CHECKS.says("Cuts a line out of a text.");
        Bench b = new Bench();
        b.fill(0, 1, 2, 3, 4, 5, 6, 7, 8, 9, 1, 2, 3, 4, 5, 6, 7);
        CHECKS.refused("place 16 of a full text", Checks.INDEX, () -> b.bench.cut(0, 16));
        CHECKS.due("the last one of a full text", b.bench.cut(0, 15), 7);
        CHECKS.due("the first one", b.bench.cut(0, 0), 1);
        CHECKS.due("what is left", b.text(0), "2 3 4 5 6 7 8 9 1 2 3 4 5 6");
        b.fill(1, 8);
        CHECKS.refused("place 1 of one line", Checks.INDEX, () -> b.bench.cut(1, 1));
        CHECKS.due("the only one", b.bench.cut(1, 0), 8);
        CHECKS.refused("out of an empty text", Checks.INDEX, () -> b.bench.cut(1, 0));
        CHECKS.due("it is empty", b.bench.length(1), 0);
    }

    private static void fullAndEmptyTextsAreCopied() {
        CHECKS.says("Makes a text the same as another one.");
        Bench b = new Bench();
        b.fill(0, 1, 2, 3, 4, 5, 6, 7, 8, 9, 1, 2, 3, 4, 5, 6, 7);
        CHECKS.due("a full one to an empty one", b.bench.copy(0, 3), 16);
        CHECKS.due("the copy", b.text(3), b.text(0));
        CHECKS.due("the last line", b.bench.lineAt(3, 15), 7);
        CHECKS.due("a full one to itself", b.bench.copy(0, 0), 16);
        CHECKS.due("the same still", b.text(0), b.text(3));
        CHECKS.due("an empty one to a full one", b.bench.copy(1, 0), 0);
        CHECKS.due("it is empty", b.text(0), "");
        CHECKS.due("an empty one to an empty one", b.bench.copy(1, 2), 0);
    }

    private static void theFirstAndTheLastLineAreRead() {
        CHECKS.says("places are counted from 0");
        Bench b = new Bench();
        b.fill(2, 1, 2, 3, 4, 5, 6, 7, 8, 9, 1, 2, 3, 4, 5, 6, 39999);
        CHECKS.due("the first", b.bench.lineAt(2, 0), 1);
        CHECKS.due("the last", b.bench.lineAt(2, 15), 39999);
        CHECKS.refused("behind the last", Checks.INDEX, () -> b.bench.lineAt(2, 16));
        CHECKS.refused("ahead of the first", Checks.INDEX, () -> b.bench.lineAt(2, -1));
        CHECKS.refused("far behind", Checks.INDEX, () -> b.bench.lineAt(2, Integer.MAX_VALUE));
        CHECKS.refused("far ahead", Checks.INDEX, () -> b.bench.lineAt(2, Integer.MIN_VALUE));
    }

    private static void like(int line, int other, int want) {
        PatchBench x = new PatchBench();
        CHECKS.due("likeness of " + line + " and " + other, x.likeness(line, other), want);
        CHECKS.due("likeness of " + other + " and " + line, x.likeness(other, line), want);
    }

    private static void likenessIsRoundedDown() {
        CHECKS.says("divided by how many words both have, together, rounded down");
        like(1, 12, 66);
        like(1, 123, 50);
        like(1, 1234, 40);
        like(12, 13, 50);
        like(12, 345, 0);
        like(12, 134, 40);
        like(12, 123, 80);
        like(12, 1345, 33);
        like(12, 1234, 66);
        like(123, 145, 33);
        like(123, 124, 66);
        like(123, 1456, 28);
        like(123, 1245, 57);
        like(123, 1234, 85);
        like(1234, 1567, 25);
        like(1234, 1256, 50);
        like(1234, 1235, 75);
    }

    private static void likenessCountsTheLongestRow() {
        CHECKS.says("the longest row of words that is in both, in the order of both (with gaps)");
        int[] words = new int[121];
        int count = 1;
        for (int k = 0; count < words.length; k++) {
            for (int word : new int[] {1, 2, 9}) {
                words[count] = 10 * words[k] + word;
                count++;
            }
        }
        PatchBench x = new PatchBench();
        int calls = 0;
        for (int line : words) {
            for (int other : words) {
                x = calls % CALLS == 0 ? new PatchBench() : x;
                calls++;
                CHECKS.due("likeness of " + line + " and " + other, x.likeness(line, other), Model.alike(line, other));
            }
        }
    }

    private static void likenessGoesFromNothingToAll() {
        CHECKS.says("Returns 0 to 100.");
        like(1, 1, 100);
        like(9999, 9999, 100);
        like(39999, 9999, 100);
        like(30001, 1, 100);
        like(1, 2, 0);
        like(1111, 2222, 0);
        like(9, 1, 0);
        like(19999, 28888, 0);
    }

    private static void blanksAndMarksAreAlikeOrNot() {
        CHECKS.says("100 if both are blank, or the same mark, 0 if one is a mark and they are not the same");
        like(0, 0, 100);
        like(0, 1, 0);
        like(0, 30009, 0);
        for (int mark = 50001; mark <= 50003; mark++) {
            like(mark, mark, 100);
            like(mark, 50001 + (mark - 50000) % 3, 0);
            like(mark, 0, 0);
            like(mark, mark - 50000, 0);
            like(mark, 39999, 0);
        }
    }
}
