import java.util.Arrays;

/** Promises 45 to 48: each sentence of the document that names a boundary of trees. */
public final class TreeEdgesTest {
    private static final Checks CHECKS = new Checks("TreeEdgesTest");
    private static final int NONE = PatchBench.NONE;
    private static final int[] DISTINCT = {1, 2, 3, 4, 5, 6, 7, 8, 9, 11, 12, 13, 14, 15, 16, 17};

    private TreeEdgesTest() {
    }

    public static void main(String[] args) {
        allFilesOfAllTrees();
        filesKeepTheirLines();
        sameNamesStayThemselves();
        emptyAndFullTrees();
        sameTextsByRisingNames();
        likenessFromSixtyOn();
        theGreatestLikenessFirst();
        emptyFilesAreAlike();
        fromTheFirstToTheTenthDifference();
        differencesLeadOnOrToNone();
        CHECKS.end();
    }

    private static int[] t(int... lines) {
        return lines;
    }

    private static void file(Bench b, int tree, int name, int... lines) {
        b.fill(3, lines);
        b.bench.setFile(tree, name, 3);
    }

    private static String went(Bench b, int difference) {
        StringBuilder all = new StringBuilder();
        for (int name = 0; name < 6; name++) {
            all.append(name > 0 ? " " : "").append(b.bench.wentTo(difference, name));
        }
        return all.toString();
    }

    private static void due(String what, Bench b, int difference, String want) {
        CHECKS.due(what, went(b, difference), want);
    }

    private static void allFilesOfAllTrees() {
        CHECKS.says("Trees are 0 to 2; a tree has up to 6 files, with the names 0 to 5, each a text; none at first.");
        PatchBench x = new PatchBench();
        for (int round = 0; round < 2; round++) {
            for (int file = 0; file < 18; file++) {
                CHECKS.due("none at first", x.setFile(file / 6, file % 6, NONE), false);
                CHECKS.due("set from text " + file % 4, x.setFile(file / 6, file % 6, file % 4), false);
                CHECKS.due("set again", x.setFile(file / 6, file % 6, 0), true);
            }
            for (int file = 0; file < 18; file++) {
                CHECKS.due("taken away", x.setFile(file / 6, file % 6, NONE), true);
                CHECKS.due("taken away again", x.setFile(file / 6, file % 6, NONE), false);
            }
        }
        int[][] wrong = {{-1, 0, 0}, {3, 0, 0}, {0, -1, 0}, {0, 6, 0}, {0, 0, -2}, {0, 0, 4}, {-1, 0, NONE}, {3, 0, NONE},
            {0, -1, NONE}, {0, 6, NONE}, {2, 5, 4}, {2, 5, -2}, {0, 0, Integer.MAX_VALUE}, {0, 0, Integer.MIN_VALUE}};
        for (int[] each : wrong) {
            CHECKS.refused("file " + Arrays.toString(each), Checks.INDEX,
                    () -> x.setFile(each[0], each[1], each[2]) ? 1 : 0);
        }
        CHECKS.due("the first was not set", x.setFile(0, 0, NONE), false);
        CHECKS.due("the last was not set", x.setFile(2, 5, NONE), false);
    }

    private static void filesKeepTheirLines() {
        CHECKS.says("0 to 3, whose lines the file has then; or NONE: there is no such file any more");
        Bench b = new Bench();
        for (int text = 0; text <= 3; text++) {
            b.fill(text, 10 * (text + 1) + 1, 10 * (text + 1) + 2);
            b.bench.setFile(0, text, text);
        }
        for (int text = 0; text <= 3; text++) {
            b.fill(text, 9);
        }
        file(b, 1, 4, 31, 32);
        file(b, 1, 5, 11, 12);
        due("each has the lines of its text", b, b.bench.difference(0, 1), "5 -1 4 -1 -1 -1");
        file(b, 0, 0, 9);
        due("set again, it has others", b, b.bench.difference(0, 1), "-1 -1 4 -1 -1 -1");
        CHECKS.refused("a text that is not there", Checks.INDEX, () -> b.bench.setFile(0, 2, 4) ? 1 : 0);
        due("refused, it has the same", b, b.bench.difference(0, 1), "-1 -1 4 -1 -1 -1");
        b.bench.setFile(0, 2, NONE);
        due("no file any more", b, b.bench.difference(0, 1), "-1 -1 -1 -1 -1 -1");
        b.fill(3, DISTINCT);
        b.bench.setFile(2, 0, 3);
        b.bench.setFile(1, 3, 3);
        due("a full text", b, b.bench.difference(2, 1), "3 -1 -1 -1 -1 -1");
    }

    private static void sameNamesStayThemselves() {
        CHECKS.says("the same name, if the second one has it");
        Bench b = new Bench();
        file(b, 0, 0, 1);
        file(b, 0, 5, 2);
        file(b, 1, 0, 2);
        file(b, 1, 5, 1);
        file(b, 1, 3, 1);
        due("with other texts", b, b.bench.difference(0, 1), "0 -1 -1 -1 -1 5");
        due("the other way round", b, b.bench.difference(1, 0), "0 -1 -1 -1 -1 5");
        due("with itself", b, b.bench.difference(1, 1), "0 -1 -1 3 -1 5");
    }

    private static void emptyAndFullTrees() {
        CHECKS.says("Returns the name in the second tree; NONE if it is not there, or was not in the first tree.");
        Bench b = new Bench();
        for (int name = 0; name < 6; name++) {
            file(b, 0, name, 1 + name);
            file(b, 1, name, 6 - name);
        }
        due("all names", b, b.bench.difference(0, 1), "0 1 2 3 4 5");
        due("to an empty tree", b, b.bench.difference(0, 2), "-1 -1 -1 -1 -1 -1");
        due("from an empty tree", b, b.bench.difference(2, 0), "-1 -1 -1 -1 -1 -1");
        due("from empty to empty", b, b.bench.difference(2, 2), "-1 -1 -1 -1 -1 -1");
        CHECKS.refused("name -1", Checks.INDEX, () -> b.bench.wentTo(0, -1));
        CHECKS.refused("name 6", Checks.INDEX, () -> b.bench.wentTo(0, 6));
        CHECKS.refused("difference -1", Checks.INDEX, () -> b.bench.wentTo(-1, 0));
        CHECKS.refused("difference 4", Checks.INDEX, () -> b.bench.wentTo(4, 0));
        CHECKS.refused("tree -1", Checks.INDEX, () -> b.bench.difference(-1, 0));
        CHECKS.refused("tree 3", Checks.INDEX, () -> b.bench.difference(3, 0));
        CHECKS.refused("other tree -1", Checks.INDEX, () -> b.bench.difference(0, -1));
        CHECKS.refused("other tree 3", Checks.INDEX, () -> b.bench.difference(0, 3));
        CHECKS.refused("none was made", Checks.INDEX, () -> b.bench.wentTo(4, 0));
    }

    private static void sameTextsByRisingNames() {
        CHECKS.says("those with the same text first, by rising names of the first tree, each with the lowest that is left");
        Bench b = new Bench();
        for (int name = 0; name < 3; name++) {
            file(b, 0, name, 1, 2);
            file(b, 1, 5 - name, 1, 2);
        }
        due("all the same", b, b.bench.difference(0, 1), "3 4 5 -1 -1 -1");
        due("the other way round", b, b.bench.difference(1, 0), "-1 -1 -1 0 1 2");
        file(b, 0, 1, 3, 4);
        file(b, 1, 3, 3, 4);
        due("two and one", b, b.bench.difference(0, 1), "4 3 5 -1 -1 -1");
        file(b, 0, 4, 1, 2);
        due("a name of both is not left", b, b.bench.difference(0, 1), "5 3 -1 -1 4 -1");
        Bench c = new Bench();
        file(c, 0, 5, 1);
        file(c, 1, 0, 1);
        due("from the last name to the first", c, c.bench.difference(0, 1), "-1 -1 -1 -1 -1 0");
        due("from the first name to the last", c, c.bench.difference(1, 0), "5 -1 -1 -1 -1 -1");
        // The same text comes first, though the name below is as like to it as can be without being the same.
        Bench d = new Bench();
        file(d, 0, 0, 1, 2, 3, 4, 5, 6, 7, 8, 9, 11, 12, 13, 14, 15, 16);
        file(d, 0, 1, DISTINCT);
        file(d, 1, 2, DISTINCT);
        due("the same text first", d, d.bench.difference(0, 1), "-1 2 -1 -1 -1 -1");
    }

    private static void like(int[] first, int[] second, boolean isLike) {
        Bench b = new Bench();
        file(b, 2, 3, first);
        file(b, 0, 5, second);
        due("from " + Arrays.toString(first) + " to " + Arrays.toString(second), b, b.bench.difference(2, 0),
                isLike ? "-1 -1 -1 5 -1 -1" : "-1 -1 -1 -1 -1 -1");
    }

    private static void likenessFromSixtyOn() {
        CHECKS.says("then, as long as there are some with a likeness of 60 or more");
        like(t(1, 2, 3, 4, 5), t(1, 2, 3, 8, 9), true);
        like(t(1, 2, 3, 4, 5), t(1, 2, 8, 9, 7), false);
        like(t(1, 2, 3, 4, 5, 6), t(1, 2, 3, 9), true);
        CHECKS.says("divided by how many lines both have, together, rounded down");
        // 59.26 of 27 lines, 60.0 of 30, 58.06 of 31, 61.54 of 26.
        like(Arrays.copyOf(DISTINCT, 14), t(1, 2, 3, 4, 5, 6, 7, 8, 21, 22, 23, 24, 25), false);
        like(Arrays.copyOf(DISTINCT, 14), t(1, 2, 3, 4, 5, 6, 7, 8, 9, 21, 22, 23, 24, 25, 26, 27), true);
        like(Arrays.copyOf(DISTINCT, 15), t(1, 2, 3, 4, 5, 6, 7, 8, 9, 21, 22, 23, 24, 25, 26, 27), false);
        like(Arrays.copyOf(DISTINCT, 13), t(1, 2, 3, 4, 5, 6, 7, 8, 21, 22, 23, 24, 25), true);
        CHECKS.says("200 times how many lines are paired by LEAST");
        like(t(1, 2, 3, 4, 5), t(3, 1, 2, 4, 9), true);
        like(t(1, 2, 3, 4, 5), t(5, 4, 3, 2, 1), false);
        like(DISTINCT, DISTINCT, true);
        like(t(1), t(1), true);
        like(t(1), t(2), false);
    }

    private static void theGreatestLikenessFirst() {
        CHECKS.says("those with the greatest likeness, of several those with the lowest name in the first tree, of these in "
                + "the second one");
        Bench b = new Bench();
        file(b, 0, 0, 1, 2, 3, 4, 5);
        file(b, 0, 1, 1, 2, 3, 4, 6);
        file(b, 1, 4, 1, 2, 3, 4, 6, 7);
        file(b, 1, 5, 1, 2, 3, 8);
        due("the greatest", b, b.bench.difference(0, 1), "5 4 -1 -1 -1 -1");
        Bench c = new Bench();
        for (int name = 0; name < 3; name++) {
            file(c, 0, name, 1, 2, 3, 4, 11 + name);
            file(c, 1, 3 + name, 1, 2, 3, 4, 21 + name);
        }
        due("all as like", c, c.bench.difference(0, 1), "3 4 5 -1 -1 -1");
        due("the other way round", c, c.bench.difference(1, 0), "-1 -1 -1 0 1 2");
        // What is taken by a greater likeness leaves only what is too little alike.
        Bench d = new Bench();
        file(d, 0, 0, 1, 2, 3, 4);
        file(d, 0, 5, 1, 2, 3, 5);
        file(d, 1, 1, 1, 2, 3, 5, 6);
        due("taken", d, d.bench.difference(0, 1), "-1 -1 -1 -1 -1 1");
        // Six names on one side, so none on the other but the same ones.
        Bench e = new Bench();
        for (int name = 0; name < 5; name++) {
            file(e, 0, name, 1, 2, 3, 11 + name);
        }
        file(e, 1, 5, 1, 2, 3, 13);
        due("the same text", e, e.bench.difference(0, 1), "-1 -1 5 -1 -1 -1");
        file(e, 1, 5, 1, 2, 3, 16);
        due("all as like to one", e, e.bench.difference(0, 1), "5 -1 -1 -1 -1 -1");
        due("one as like to all", e, e.bench.difference(1, 0), "-1 -1 -1 -1 -1 0");
    }

    private static void emptyFilesAreAlike() {
        CHECKS.says("100 if both are empty");
        like(t(), t(), true);
        like(t(), t(1), false);
        like(t(1), t(), false);
        like(t(0), t(), false);
        like(t(0), t(0), true);
    }

    private static void fromTheFirstToTheTenthDifference() {
        CHECKS.says("Differences are numbered from 0; there can be 10.");
        Bench b = new Bench();
        file(b, 0, 0, 1);
        file(b, 1, 5, 1);
        for (int i = 0; i < 10; i++) {
            int next = i;
            CHECKS.refused("the one behind the last", Checks.INDEX, () -> b.bench.wentTo(next, 0));
            CHECKS.due("number", i < 9 ? b.bench.difference(0, 1) : b.bench.compose(0, 0), i);
        }
        CHECKS.refused("the eleventh", Checks.STATE, () -> b.bench.difference(0, 1));
        CHECKS.refused("the eleventh, composed", Checks.STATE, () -> b.bench.compose(0, 9));
        CHECKS.refused("of no tree", Checks.INDEX, () -> b.bench.difference(0, 3));
        CHECKS.refused("of no difference", Checks.INDEX, () -> b.bench.compose(10, 0));
        CHECKS.refused("to no difference", Checks.INDEX, () -> b.bench.compose(0, 10));
        CHECKS.refused("difference 10", Checks.INDEX, () -> b.bench.wentTo(10, 0));
        due("the first", b, 0, "5 -1 -1 -1 -1 -1");
        due("the ninth", b, 8, "5 -1 -1 -1 -1 -1");
        due("the tenth", b, 9, "-1 -1 -1 -1 -1 -1");
    }

    private static void differencesLeadOnOrToNone() {
        CHECKS.says("To compose two of them is to go on with the second one from where the first one leads; a name that is "
                + "not there in the first tree leads to NONE.");
        Bench b = new Bench();
        file(b, 0, 0, 1, 2);
        file(b, 0, 1, 3, 4);
        file(b, 0, 2, 5, 6);
        file(b, 0, 3, 7, 8);
        file(b, 1, 5, 1, 2);
        file(b, 1, 1, 3, 4);
        file(b, 1, 4, 5, 6);
        file(b, 2, 0, 1, 2);
        file(b, 2, 2, 3, 4);
        b.bench.difference(0, 1);
        b.bench.difference(1, 2);
        due("the first", b, 0, "5 1 4 -1 -1 -1");
        due("the second", b, 1, "-1 2 -1 -1 -1 0");
        due("one behind the other", b, b.bench.compose(0, 1), "0 2 -1 -1 -1 -1");
        due("the other way round", b, b.bench.compose(1, 0), "-1 4 -1 -1 -1 5");
        b.bench.setFile(0, 0, NONE);
        due("what was found stays", b, 0, "5 1 4 -1 -1 -1");
        CHECKS.refused("first -1", Checks.INDEX, () -> b.bench.compose(-1, 0));
        CHECKS.refused("first 4", Checks.INDEX, () -> b.bench.compose(4, 0));
        CHECKS.refused("second -1", Checks.INDEX, () -> b.bench.compose(0, -1));
        CHECKS.refused("second 4", Checks.INDEX, () -> b.bench.compose(0, 4));
        due("itself with itself", b, b.bench.compose(0, 0), "-1 1 -1 -1 -1 -1");
        CHECKS.refused("of none", Checks.INDEX, () -> new PatchBench().compose(0, 0));
    }
}
