/** Fills texts, trees and rows in one line each, and writes them as one line, with as few calls as can be. */
final class Bench {
    final PatchBench bench = new PatchBench();

    PatchBench fill(int text, int... lines) {
        int length = bench.length(text);
        for (int i = 0; i < length; i++) {
            bench.cut(text, 0);
        }
        for (int i = 0; i < lines.length; i++) {
            bench.put(text, i, lines[i]);
        }
        return bench;
    }

    /** What a call answers for 0, 1 and so on, so many times. */
    private static String listed(int count, Checks.PlaceCall call) {
        StringBuilder all = new StringBuilder();
        for (int i = 0; i < count; i++) {
            all.append(i > 0 ? " " : "").append(call.answer(i));
        }
        return all.toString();
    }

    /** What a call answers for 0, 1 and so on, up to the first NONE. */
    private static String listedToNone(Checks.PlaceCall call) {
        StringBuilder all = new StringBuilder();
        long answer = call.answer(0);
        for (int i = 1; answer != PatchBench.NONE; i++) {
            all.append(i > 1 ? " " : "").append(answer);
            answer = call.answer(i);
        }
        return all.toString();
    }

    private int oldLength(int patch) {
        int count = 0;
        while (bench.lineIn(patch, false, count) != PatchBench.NONE) {
            count++;
        }
        return count;
    }

    private int topLength() {
        int count = 0;
        while (bench.top(count) != PatchBench.NONE) {
            count++;
        }
        return count;
    }

    String text(int text) {
        return listed(bench.length(text), place -> bench.lineAt(text, place));
    }

    int make(int way, int[] before, int[] after) {
        fill(0, before);
        fill(1, after);
        return bench.make(0, 1, way);
    }

    String lines(int patch, boolean isNew) {
        return listedToNone(place -> bench.lineIn(patch, isNew, place));
    }

    /** The hunks as old start, dropped, new start, added. */
    String hunks(int patch) {
        StringBuilder all = new StringBuilder();
        int count = bench.hunks(patch);
        for (int h = 0; h < count; h++) {
            int hunk = h;
            all.append(h > 0 ? " | " : "").append(listed(4, what -> bench.hunk(patch, hunk, what)));
        }
        return all.toString();
    }

    /** The partners of the old lines, one behind the other. */
    String pairs(int patch) {
        return listed(oldLength(patch), place -> bench.pairIn(patch, place));
    }

    String moved(int patch) {
        return listed(oldLength(patch), place -> bench.movedTo(patch, place));
    }

    String compared(int text, int other, int way) {
        return listed(bench.length(text), place -> bench.pairOf(text, other, way, place));
    }

    String top() {
        return listedToNone(bench::top);
    }

    String names() {
        return listed(bench.height(), bench::nameAt);
    }

    /** Makes a patch from the text of the stack to these lines and pushes it; answers its name. */
    int pushTo(int way, int... lines) {
        int[] before = new int[topLength()];
        for (int i = 0; i < before.length; i++) {
            before[i] = bench.top(i);
        }
        fill(2, before);
        fill(3, lines);
        return bench.push(bench.make(2, 3, way));
    }

    /** A stack on a base, with a patch by LEAST to each of the texts. */
    static Bench stacked(int[] base, int[]... texts) {
        Bench b = new Bench();
        b.fill(2, base);
        b.bench.setBase(2);
        for (int[] text : texts) {
            b.fill(3, text);
            b.bench.push(b.bench.make(2, 3, PatchBench.LEAST));
            b.bench.copy(3, 2);
        }
        return b;
    }

    String blames() {
        StringBuilder all = new StringBuilder();
        int count = topLength();
        for (int i = 0; i < count; i++) {
            all.append(i > 0 ? " " : "").append(bench.blame(i)).append(":").append(bench.began(i));
        }
        return all.toString();
    }

    PatchBench fillRow(int row, int... bytes) {
        bench.clear(row);
        for (int value : bytes) {
            bench.addByte(row, value);
        }
        return bench;
    }

    String row(int row) {
        return listedToNone(place -> bench.byteAt(row, place));
    }

    String steps(int delta) {
        return listedToNone(step -> bench.step(delta, step));
    }
}
