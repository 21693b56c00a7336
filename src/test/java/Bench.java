/** Fills texts, trees and rows in one line each, and writes them as one line. */
final class Bench {
    final PatchBench bench = new PatchBench();

    PatchBench fill(int text, int... lines) {
        while (bench.length(text) > 0) {
            bench.cut(text, 0);
        }
        for (int line : lines) {
            bench.put(text, bench.length(text), line);
        }
        return bench;
    }

    String text(int text) {
        StringBuilder all = new StringBuilder();
        for (int i = 0; i < bench.length(text); i++) {
            all.append(i > 0 ? " " : "").append(bench.lineAt(text, i));
        }
        return all.toString();
    }

    int make(int way, int[] before, int[] after) {
        fill(0, before);
        fill(1, after);
        return bench.make(0, 1, way);
    }

    static int[] lines(int... lines) {
        return lines;
    }

    String lines(int patch, boolean isNew) {
        StringBuilder all = new StringBuilder();
        for (int i = 0; bench.lineIn(patch, isNew, i) != PatchBench.NONE; i++) {
            all.append(i > 0 ? " " : "").append(bench.lineIn(patch, isNew, i));
        }
        return all.toString();
    }

    /** The hunks as old start, dropped, new start, added. */
    String hunks(int patch) {
        StringBuilder all = new StringBuilder();
        for (int h = 0; h < bench.hunks(patch); h++) {
            all.append(h > 0 ? " | " : "");
            for (int what = 0; what < 4; what++) {
                all.append(what > 0 ? " " : "").append(bench.hunk(patch, h, what));
            }
        }
        return all.toString();
    }

    /** The partners of the old lines, one behind the other. */
    String pairs(int patch) {
        StringBuilder all = new StringBuilder();
        for (int i = 0; bench.lineIn(patch, false, i) != PatchBench.NONE; i++) {
            all.append(i > 0 ? " " : "").append(bench.pairIn(patch, i));
        }
        return all.toString();
    }

    String moved(int patch) {
        StringBuilder all = new StringBuilder();
        for (int i = 0; bench.lineIn(patch, false, i) != PatchBench.NONE; i++) {
            all.append(i > 0 ? " " : "").append(bench.movedTo(patch, i));
        }
        return all.toString();
    }

    String compared(int text, int other, int way) {
        StringBuilder all = new StringBuilder();
        for (int i = 0; i < bench.length(text); i++) {
            all.append(i > 0 ? " " : "").append(bench.pairOf(text, other, way, i));
        }
        return all.toString();
    }

    String top() {
        StringBuilder all = new StringBuilder();
        for (int i = 0; bench.top(i) != PatchBench.NONE; i++) {
            all.append(i > 0 ? " " : "").append(bench.top(i));
        }
        return all.toString();
    }

    String names() {
        StringBuilder all = new StringBuilder();
        for (int k = 0; k < bench.height(); k++) {
            all.append(k > 0 ? " " : "").append(bench.nameAt(k));
        }
        return all.toString();
    }

    /** Makes a patch from the text of the stack to these lines and pushes it; answers its name. */
    int pushTo(int way, int... lines) {
        fill(2);
        for (int i = 0; bench.top(i) != PatchBench.NONE; i++) {
            bench.put(2, i, bench.top(i));
        }
        fill(3, lines);
        return bench.push(bench.make(2, 3, way));
    }

    String blames() {
        StringBuilder all = new StringBuilder();
        for (int i = 0; bench.top(i) != PatchBench.NONE; i++) {
            all.append(i > 0 ? " " : "").append(bench.blame(i)).append(":").append(bench.began(i));
        }
        return all.toString();
    }

    PatchBench fillRow(int row, int... bytes) {
        bench.clear(row);
        for (int value : bytes) {
            bench.addByte(row, value);
        }
        return bench;
    }

    String row(int row) {
        StringBuilder all = new StringBuilder();
        for (int i = 0; bench.byteAt(row, i) != PatchBench.NONE; i++) {
            all.append(i > 0 ? " " : "").append(bench.byteAt(row, i));
        }
        return all.toString();
    }

    String steps(int delta) {
        StringBuilder all = new StringBuilder();
        for (int i = 0; bench.step(delta, i) != PatchBench.NONE; i++) {
            all.append(i > 0 ? " " : "").append(bench.step(delta, i));
        }
        return all.toString();
    }
}
