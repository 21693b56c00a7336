/** Promises 45 to 48: trees. */
public final class TreesTest {
    private static final Checks CHECKS = new Checks("TreesTest");
    private static final int NONE = PatchBench.NONE;

    private TreesTest() {
    }

    public static void main(String[] args) {
        filesAreSet();
        sameNamesStay();
        sameTextsAreFoundByRisingNames();
        likeTextsAreFound();
        theGreatestLikenessIsTaken();
        emptyFilesAreAlike();
        differencesAreComposed();
        thereAreTenDifferences();
        whatIsNotThereIsRefused();
        CHECKS.end();
    }

    /** Sets a file by way of text 3. */
    private static void file(Bench b, int tree, int name, int... lines) {
        b.fill(3, lines);
        b.bench.setFile(tree, name, 3);
    }

    private static void due(String what, Bench b, int difference, String want) {
        StringBuilder got = new StringBuilder();
        for (int name = 0; name < 6; name++) {
            got.append(name > 0 ? " " : "").append(b.bench.wentTo(difference, name));
        }
        CHECKS.due(what, got.toString(), want);
    }

    private static void filesAreSet() {
        Bench b = new Bench();
        b.fill(1, 1, 2);
        CHECKS.due("a new file", b.bench.setFile(0, 2, 1), false);
        CHECKS.due("again", b.bench.setFile(0, 2, 0), true);
        CHECKS.due("take it away", b.bench.setFile(0, 2, NONE), true);
        CHECKS.due("take none away", b.bench.setFile(0, 2, NONE), false);
        CHECKS.due("in another tree", b.bench.setFile(1, 2, 1), false);
        CHECKS.due("the name 5", b.bench.setFile(2, 5, 3), false);
        // The file keeps its lines when the text changes.
        Bench c = new Bench();
        file(c, 0, 0, 1, 2, 3);
        file(c, 1, 1, 1, 2, 3);
        c.fill(3, 7);
        due("files are copies", c, c.bench.difference(0, 1), "1 -1 -1 -1 -1 -1");
    }

    private static void sameNamesStay() {
        Bench b = new Bench();
        file(b, 0, 0, 1);
        file(b, 0, 1, 2);
        file(b, 0, 3, 4);
        file(b, 1, 0, 2);
        file(b, 1, 1, 1);
        file(b, 1, 5, 9);
        CHECKS.due("number", b.bench.difference(0, 1), 0);
        due("same names, other texts", b, 0, "0 1 -1 -1 -1 -1");
        CHECKS.due("number", b.bench.difference(1, 0), 1);
        due("the other way", b, 1, "0 1 -1 -1 -1 -1");
        due("a tree with itself", b, b.bench.difference(0, 0), "0 1 -1 3 -1 -1");
        due("an empty tree", b, b.bench.difference(2, 0), "-1 -1 -1 -1 -1 -1");
        due("to an empty tree", b, b.bench.difference(0, 2), "-1 -1 -1 -1 -1 -1");
    }

    private static void sameTextsAreFoundByRisingNames() {
        Bench b = new Bench();
        file(b, 0, 0, 1, 2);
        file(b, 0, 1, 1, 2);
        file(b, 0, 2, 1, 2);
        file(b, 1, 3, 1, 2);
        file(b, 1, 5, 1, 2);
        due("the lowest that is left", b, b.bench.difference(0, 1), "3 5 -1 -1 -1 -1");
        due("the other way", b, b.bench.difference(1, 0), "-1 -1 -1 0 -1 1");
        due("the same asked again", b, b.bench.difference(1, 0), "-1 -1 -1 0 -1 1");
        // A name that both have is not free for another file with the same text.
        file(b, 1, 0, 8);
        file(b, 0, 1, 8);
        due("taken by its name", b, b.bench.difference(0, 1), "0 -1 3 -1 -1 -1");
    }

    private static void likeTextsAreFound() {
        Bench b = new Bench();
        file(b, 0, 0, 1, 2, 3, 4, 5);
        file(b, 1, 1, 1, 2, 3, 7, 8);
        due("60 is enough", b, b.bench.difference(0, 1), "1 -1 -1 -1 -1 -1");
        file(b, 1, 1, 1, 2, 3, 6, 7, 8);
        due("54 is not", b, b.bench.difference(0, 1), "-1 -1 -1 -1 -1 -1");
        file(b, 1, 1, 3, 2, 1, 4, 5);
        due("in another order, 60", b, b.bench.difference(0, 1), "1 -1 -1 -1 -1 -1");
        file(b, 0, 0, 1, 2, 3, 4, 5, 6, 7, 8, 9, 11, 12, 13, 14);
        file(b, 1, 1, 1, 2, 3, 4, 5, 6, 7);
        due("70", b, b.bench.difference(0, 1), "1 -1 -1 -1 -1 -1");
        file(b, 1, 1, 1, 2, 3, 4, 5, 21, 22, 23);
        due("47", b, b.bench.difference(0, 1), "-1 -1 -1 -1 -1 -1");
        file(b, 0, 0, 1, 1, 1, 1, 1, 1, 1, 1, 2, 2, 2, 2, 2, 2);
        file(b, 1, 1, 1, 1, 1, 1, 1, 1, 1, 1, 3, 3, 3, 3, 3);
        due("16 of 27, 59", b, b.bench.difference(0, 1), "-1 -1 -1 -1 -1 -1");
    }

    private static void theGreatestLikenessIsTaken() {
        Bench b = new Bench();
        file(b, 0, 0, 1, 2, 3, 4, 5);
        file(b, 0, 1, 1, 2, 3, 4, 6);
        file(b, 1, 2, 1, 2, 3, 4, 6, 7);
        file(b, 1, 3, 1, 2, 3);
        due("the second file is nearer", b, b.bench.difference(0, 1), "3 2 -1 -1 -1 -1");
        Bench c = new Bench();
        file(c, 0, 4, 1, 2, 3, 4, 5);
        file(c, 0, 5, 1, 2, 3, 4, 6);
        file(c, 1, 2, 1, 2, 3, 4, 7);
        file(c, 1, 3, 1, 2, 3, 4, 8);
        due("all alike", c, c.bench.difference(0, 1), "-1 -1 -1 -1 2 3");
        // The same text goes ahead of a greater number of lines elsewhere, and takes the name.
        Bench d = new Bench();
        file(d, 0, 0, 1, 2, 3, 4);
        file(d, 0, 5, 1, 2, 3);
        file(d, 1, 1, 1, 2, 3);
        file(d, 1, 2, 1, 2, 3, 5);
        due("the same text first", d, d.bench.difference(0, 1), "2 -1 -1 -1 -1 1");
        // Both have 66, so the lowest name is taken.
        Bench e = new Bench();
        file(e, 0, 0, 1, 2, 3, 4);
        file(e, 1, 2, 1, 2, 3, 6, 7);
        file(e, 1, 1, 1, 2, 8, 9, 3);
        due("the lowest of several", e, e.bench.difference(0, 1), "1 -1 -1 -1 -1 -1");
    }

    private static void emptyFilesAreAlike() {
        Bench b = new Bench();
        file(b, 0, 0);
        file(b, 1, 1);
        file(b, 1, 2);
        due("empty files", b, b.bench.difference(0, 1), "1 -1 -1 -1 -1 -1");
        file(b, 1, 1, 5);
        b.bench.setFile(1, 2, NONE);
        due("one is empty", b, b.bench.difference(0, 1), "-1 -1 -1 -1 -1 -1");
    }

    private static void differencesAreComposed() {
        Bench b = new Bench();
        file(b, 0, 0, 1, 2);
        file(b, 0, 1, 3, 4);
        file(b, 0, 2, 5, 6);
        file(b, 1, 3, 1, 2);
        file(b, 1, 1, 3, 4);
        file(b, 2, 5, 1, 2);
        file(b, 2, 0, 3, 4);
        b.bench.difference(0, 1);
        b.bench.difference(1, 2);
        due("the first", b, 0, "3 1 -1 -1 -1 -1");
        due("the second", b, 1, "-1 0 -1 5 -1 -1");
        CHECKS.due("number", b.bench.compose(0, 1), 2);
        due("one behind the other", b, 2, "5 0 -1 -1 -1 -1");
        due("with itself", b, b.bench.compose(0, 0), "-1 1 -1 -1 -1 -1");
        due("of a composed one", b, b.bench.compose(2, 1), "-1 -1 -1 -1 -1 -1");
        CHECKS.refused("first below", Checks.INDEX, () -> b.bench.compose(-1, 0));
        CHECKS.refused("first above", Checks.INDEX, () -> b.bench.compose(5, 0));
        CHECKS.refused("second below", Checks.INDEX, () -> b.bench.compose(0, -1));
        CHECKS.refused("second above", Checks.INDEX, () -> b.bench.compose(0, 5));
    }

    private static void thereAreTenDifferences() {
        Bench b = new Bench();
        for (int i = 0; i < 10; i++) {
            CHECKS.due("number", i % 2 == 0 ? b.bench.difference(0, 1) : b.bench.compose(0, 0), i);
        }
        CHECKS.refused("the 11th", Checks.STATE, () -> b.bench.difference(0, 1));
        CHECKS.refused("the 11th, composed", Checks.STATE, () -> b.bench.compose(0, 9));
        CHECKS.refused("no such tree", Checks.INDEX, () -> b.bench.difference(3, 0));
        CHECKS.refused("no such difference", Checks.INDEX, () -> b.bench.compose(0, 10));
    }

    private static void whatIsNotThereIsRefused() {
        Bench b = new Bench();
        PatchBench x = b.bench;
        CHECKS.refused("tree below", Checks.INDEX, () -> x.setFile(-1, 0, 0) ? 1 : 0);
        CHECKS.refused("tree above", Checks.INDEX, () -> x.setFile(3, 0, 0) ? 1 : 0);
        CHECKS.refused("name below", Checks.INDEX, () -> x.setFile(0, -1, 0) ? 1 : 0);
        CHECKS.refused("name above", Checks.INDEX, () -> x.setFile(0, 6, 0) ? 1 : 0);
        CHECKS.refused("text below", Checks.INDEX, () -> x.setFile(0, 0, -2) ? 1 : 0);
        CHECKS.refused("text above", Checks.INDEX, () -> x.setFile(0, 0, 4) ? 1 : 0);
        CHECKS.due("nothing was set", x.setFile(0, 0, NONE), false);
        CHECKS.refused("difference of none below", Checks.INDEX, () -> x.difference(-1, 0));
        CHECKS.refused("difference of none", Checks.INDEX, () -> x.difference(3, 0));
        CHECKS.refused("difference to none below", Checks.INDEX, () -> x.difference(0, -1));
        CHECKS.refused("difference to none", Checks.INDEX, () -> x.difference(0, 3));
        x.difference(0, 1);
        CHECKS.due("a file that was not there", x.wentTo(0, 5), NONE);
        CHECKS.refused("wentTo below", Checks.INDEX, () -> x.wentTo(-1, 0));
        CHECKS.refused("wentTo above", Checks.INDEX, () -> x.wentTo(1, 0));
        CHECKS.refused("wentTo name below", Checks.INDEX, () -> x.wentTo(0, -1));
        CHECKS.refused("wentTo name above", Checks.INDEX, () -> x.wentTo(0, 6));
    }
}
