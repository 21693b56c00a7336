/** All that can be seen of an object, as one text. Reading it uses the object up: patches are popped, files taken away. */
final class Snapshot {
    private final PatchBench bench;
    private final StringBuilder all = new StringBuilder();

    private Snapshot(PatchBench bench) {
        this.bench = bench;
    }

    static String of(PatchBench bench) {
        Snapshot snapshot = new Snapshot(bench);
        snapshot.readTextsAndRows();
        snapshot.readPatches();
        snapshot.readStack();
        snapshot.readDifferences();
        snapshot.readDeltas();
        snapshot.useUpTrees();
        snapshot.useUpStack();
        return snapshot.all.toString();
    }

    private void note(String what, Checks.Call call) {
        all.append(what).append(" ").append(Checks.outcome(call)).append("\n");
    }

    /** Notes what calls answer for 0, 1 and so on, up to the first one that is NONE or is refused. */
    private void noteRow(String what, Checks.PlaceCall call) {
        all.append(what);
        String last = "";
        for (int i = 0; i < 64 && !last.equals("-1") && !last.startsWith("throws"); i++) {
            int place = i;
            last = Checks.outcome(() -> call.answer(place));
            all.append(" ").append(last);
        }
        all.append("\n");
    }

    private void readTextsAndRows() {
        for (int i = 0; i < 4; i++) {
            int at = i;
            noteRow("text", place -> bench.lineAt(at, place));
            noteRow("row", place -> bench.byteAt(at, place));
        }
        noteRow("where hunks were put", hunk -> bench.putAt(hunk) + 1000);
    }

    private void readPatches() {
        note("patches", bench::patches);
        for (int i = 0; i < bench.patches(); i++) {
            int patch = i;
            noteRow("old", place -> bench.lineIn(patch, false, place));
            noteRow("new", place -> bench.lineIn(patch, true, place));
            noteRow("pairs", place -> bench.pairIn(patch, place) + 1000);
        }
    }

    private void readStack() {
        note("height", bench::height);
        noteRow("names", bench::nameAt);
        noteRow("needs", bench::needs);
        noteRow("blame", place -> bench.blame(place) + 1000);
        noteRow("began", bench::began);
    }

    private void readDifferences() {
        for (int i = 0; i <= 10; i++) {
            int difference = i;
            if (!Checks.outcome(() -> bench.wentTo(difference, 0)).startsWith("throws")) {
                noteRow("difference " + difference, name -> bench.wentTo(difference, name) + 1000);
            }
        }
    }

    private void readDeltas() {
        for (int i = 0; i <= 10; i++) {
            int delta = i;
            if (!Checks.outcome(() -> bench.sizeOf(delta)).startsWith("throws")) {
                noteRow("delta " + delta, step -> bench.step(delta, step));
            }
        }
    }

    /** The lines of files can only be seen by what differences tell of them. */
    private void useUpTrees() {
        for (int tree = 0; tree < 3; tree++) {
            int from = tree;
            String number = Checks.outcome(() -> bench.difference(from, (from + 1) % 3));
            all.append("difference of trees ").append(number).append("\n");
            if (!number.startsWith("throws")) {
                int made = Integer.parseInt(number);
                noteRow("went", name -> bench.wentTo(made, name) + 1000);
            }
        }
        for (int file = 0; file < 18; file++) {
            int at = file;
            note("file", () -> bench.setFile(at / 6, at % 6, PatchBench.NONE) ? 1 : 0);
        }
    }

    private void useUpStack() {
        noteRow("top", bench::top);
        while (bench.height() > 0) {
            note("pop", bench::pop);
            noteRow("top", bench::top);
        }
        for (int patch = 0; patch < bench.patches() && bench.height() == 0; patch++) {
            int pushed = patch;
            note("the next name", () -> bench.push(pushed));
        }
    }
}
