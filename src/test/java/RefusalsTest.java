import java.util.ArrayList;
import java.util.Arrays;
import java.util.List;

/**
 * Promises 2 to 56: each refused call, which exception comes first if several apply, and that a call that throws
 * changes nothing. A scene is a call on a prepared object; all values of its arguments are tried with one another.
 */
public final class RefusalsTest {
    private static final Checks CHECKS = new Checks("RefusalsTest");
    private static final String INDEX = Checks.INDEX, ARGUMENT = Checks.ARGUMENT, STATE = Checks.STATE;
    /** The order of the document's @throws lines, which is the same for all calls. */
    private static final List<String> ORDER = List.of(INDEX, ARGUMENT, STATE);
    private static final int LEAST = PatchBench.LEAST, NONE = PatchBench.NONE;
    private static final int MIN = Integer.MIN_VALUE, MAX = Integer.MAX_VALUE;
    private static final int[] DISTINCT = {1, 2, 3, 4, 5, 6, 7, 8, 9, 11, 12, 13, 14, 15, 16, 17};

    private interface Setup {
        void prepare(Bench b);
    }

    private interface Face {
        long call(PatchBench x, int[] a);
    }

    /** The values of one argument, each with the exception that is due for it, or with none. */
    private static final class Arg {
        private final List<Integer> values = new ArrayList<>();
        private final List<String> due = new ArrayList<>();

        Arg good(int... some) {
            return with("", some);
        }

        Arg bad(String exception, int... some) {
            return with(exception, some);
        }

        private Arg with(String exception, int... some) {
            for (int value : some) {
                values.add(value);
                due.add(exception);
            }
            return this;
        }
    }

    private static int refusedCalls;

    private RefusalsTest() {
    }

    public static void main(String[] args) {
        CHECKS.says("A call that throws an exception changes nothing; if several exceptions apply, the one that its @throws "
                + "lines name first is thrown.");
        texts();
        comparing();
        makingPatches();
        joiningPatches();
        movingPatchesPast();
        splittingPatches();
        readingPatches();
        putting();
        merging();
        theBaseAndPushes();
        takingAndSwapping();
        foldingAndEditing();
        readingTheStack();
        trees();
        bytes();
        deltas();
        CHECKS.due("there are many", refusedCalls > 5000, true);
        CHECKS.end();
    }

    // ---- scenes

    private static Arg arg() {
        return new Arg();
    }

    /** An index below a count. */
    private static Arg index(int count) {
        Arg arg = arg().bad(INDEX, -1, count, MIN, MAX);
        return count > 1 ? arg.good(0, count - 1) : count > 0 ? arg.good(0) : arg.bad(INDEX, 1);
    }

    /** A number from the least to the greatest that is allowed. */
    private static Arg range(int least, int most) {
        return arg().good(least, most).bad(ARGUMENT, least - 1, most + 1, MIN, MAX);
    }

    private static Arg line() {
        return arg().good(0, 1, 39999, 50001, 50003).bad(ARGUMENT, -1, 10, 10000, 40001, 50000, 50004, MIN, MAX);
    }

    private static Arg flag() {
        return arg().good(0, 1);
    }

    private static void scene(String call, Setup setup, Face face, Arg... args) {
        scene(call, "", setup, face, args);
    }

    /** Tries all arguments; the state of the prepared object may be one in which an exception is due for all. */
    private static void scene(String call, String dueByState, Setup setup, Face face, Arg... args) {
        String before = Snapshot.of(prepared(setup).bench);
        int[] chosen = new int[args.length];
        boolean isMore = true;
        while (isMore) {
            tryOne(call, dueByState, setup, face, args, chosen, before);
            isMore = false;
            for (int i = 0; i < args.length && !isMore; i++) {
                chosen[i] = (chosen[i] + 1) % args[i].values.size();
                isMore = chosen[i] > 0;
            }
        }
    }

    private static Bench prepared(Setup setup) {
        Bench b = new Bench();
        setup.prepare(b);
        return b;
    }

    private static void tryOne(String call, String dueByState, Setup setup, Face face, Arg[] args, int[] chosen,
            String before) {
        int[] values = new int[args.length];
        List<String> apply = new ArrayList<>(List.of(dueByState));
        for (int i = 0; i < args.length; i++) {
            values[i] = args[i].values.get(chosen[i]);
            apply.add(args[i].due.get(chosen[i]));
        }
        String due = "";
        for (int i = ORDER.size() - 1; i >= 0; i--) {
            due = apply.contains(ORDER.get(i)) ? ORDER.get(i) : due;
        }
        PatchBench x = prepared(setup).bench;
        String what = call + " " + Arrays.toString(values);
        String outcome = Checks.outcome(() -> face.call(x, values));
        if (due.isEmpty()) {
            CHECKS.due(what + " is refused: " + outcome, outcome.startsWith("throws"), false);
            return;
        }
        refusedCalls++;
        CHECKS.due(what, outcome, "throws " + due);
        CHECKS.due("what can be seen after " + what, Snapshot.of(x), before);
    }

    // ---- objects that are prepared

    private static int[] t(int... lines) {
        return lines;
    }

    /** Something of everything: texts, two patches, a stack of both, two trees, rows and deltas. */
    private static void furnish(Bench b) {
        b.make(LEAST, t(1, 2, 3), t(1, 9, 3, 4));
        b.bench.make(1, 0, LEAST);
        b.fill(2, 1, 2, 3);
        b.bench.putOn(0, 2, 0);
        b.fill(3, 50001, 6, 50002, 7, 50003);
        b.bench.setBase(0);
        b.bench.push(0);
        b.bench.push(1);
        b.bench.setFile(0, 0, 0);
        b.bench.setFile(0, 4, 1);
        b.bench.setFile(1, 5, 1);
        b.bench.setFile(1, 2, 0);
        b.bench.difference(0, 1);
        b.bench.compose(0, 0);
        b.fillRow(0, 1, 2, 3, 4);
        b.fillRow(1, 9, 2, 3, 4);
        b.fillRow(2, 5, 6, 7);
        b.bench.delta(0, 1);
        b.bench.delta(1, 0);
    }

    private static void onlyTexts(Bench b) {
        b.fill(0, 1, 2, 3);
        b.fill(1, 1, 9, 3, 4);
    }

    private static void fullTexts(Bench b) {
        furnish(b);
        b.fill(0, DISTINCT);
        b.fill(3, DISTINCT);
    }

    /** 24 patches that drop a line, one of them on the stack. */
    private static void allPatches(Bench b) {
        b.fill(0, 1);
        for (int i = 0; i < 24; i++) {
            b.bench.make(0, 1, LEAST);
        }
        b.bench.setBase(0);
        b.bench.push(0);
    }

    /** 24 patches without hunks, which follow one another. */
    private static void allPatchesOfNoHunks(Bench b) {
        b.fill(0, 1);
        for (int i = 0; i < 24; i++) {
            b.bench.make(0, 0, LEAST);
        }
    }

    /** Two patches, one behind the other, apart from each other. */
    private static void apart(Bench b) {
        b.make(LEAST, t(1, 2, 3, 4, 5), t(1, 9, 3, 4, 5));
        b.make(LEAST, t(1, 9, 3, 4, 5), t(1, 9, 3, 5));
        b.fill(0, 1, 2, 3, 4, 5);
        b.bench.setBase(0);
        b.bench.push(0);
        b.bench.push(1);
    }

    /** Two patches apart that would have 17 lines between them. */
    private static void apartAndLong(Bench b) {
        int[] fewer = Arrays.copyOfRange(DISTINCT, 1, 16);
        int[] more = Arrays.copyOf(fewer, 16);
        more[15] = 21;
        b.make(LEAST, DISTINCT, fewer);
        b.make(LEAST, fewer, more);
        b.fill(0, DISTINCT);
        b.bench.setBase(0);
        b.bench.push(0);
        b.bench.push(1);
    }

    private static void allLayers(Bench b) {
        furnish(b);
        b.bench.push(0);
        b.bench.push(1);
        b.bench.push(0);
    }

    private static void nothing(Bench b) {
    }

    // ---- promises 2 to 10

    private static void texts() {
        scene("put", RefusalsTest::furnish, (x, a) -> x.put(a[0], a[1], a[2]),
                arg().good(0).bad(INDEX, -1, 4, MIN, MAX), arg().good(0, 3).bad(INDEX, -1, 4, MIN, MAX), line());
        scene("put into a full text", STATE, RefusalsTest::fullTexts, (x, a) -> x.put(a[0], a[1], a[2]),
                arg().good(0, 3).bad(INDEX, -1, 4, MIN, MAX), arg().good(0, 16).bad(INDEX, -1, 17, MIN, MAX), line());
        scene("put into an empty text", RefusalsTest::nothing, (x, a) -> x.put(a[0], a[1], a[2]), index(4), index(1), line());
        scene("cut", RefusalsTest::furnish, (x, a) -> x.cut(a[0], a[1]),
                arg().good(0).bad(INDEX, -1, 4, MIN, MAX), index(3));
        scene("cut a full text", RefusalsTest::fullTexts, (x, a) -> x.cut(a[0], a[1]),
                arg().good(0, 3).bad(INDEX, -1, 4, MIN, MAX), index(16));
        scene("cut an empty text", RefusalsTest::nothing, (x, a) -> x.cut(a[0], a[1]), index(4), index(0));
        scene("copy", RefusalsTest::furnish, (x, a) -> x.copy(a[0], a[1]), index(4), index(4));
        scene("length", RefusalsTest::furnish, (x, a) -> x.length(a[0]), index(4));
        scene("lineAt", RefusalsTest::furnish, (x, a) -> x.lineAt(a[0], a[1]),
                arg().good(0).bad(INDEX, -1, 4, MIN, MAX), index(3));
        scene("lineAt in an empty text", RefusalsTest::nothing, (x, a) -> x.lineAt(a[0], a[1]), index(4), index(0));
        scene("likeness", RefusalsTest::furnish, (x, a) -> x.likeness(a[0], a[1]), line(), line());
    }

    private static void comparing() {
        scene("pairOf", RefusalsTest::furnish, (x, a) -> x.pairOf(a[0], a[1], a[2], a[3]),
                arg().good(0).bad(INDEX, -1, 4, MIN, MAX), index(4), range(0, 2), index(3));
        scene("pairOf in an empty text", RefusalsTest::nothing, (x, a) -> x.pairOf(a[0], a[1], a[2], a[3]),
                index(4), index(4), range(0, 2), index(0));
        scene("kept", RefusalsTest::furnish, (x, a) -> x.kept(a[0], a[1], a[2]), index(4), index(4), range(0, 2));
        scene("keptByTable", RefusalsTest::furnish, (x, a) -> x.keptByTable(a[0], a[1]), index(4), index(4));
    }

    // ---- promises 11 to 24

    private static void makingPatches() {
        scene("make", RefusalsTest::furnish, (x, a) -> x.make(a[0], a[1], a[2]), index(4), index(4), range(0, 2));
        scene("make the 25th", STATE, RefusalsTest::allPatches, (x, a) -> x.make(a[0], a[1], a[2]),
                index(4), index(4), range(0, 2));
        scene("invert", RefusalsTest::furnish, (x, a) -> x.invert(a[0]), index(2));
        scene("invert for the 25th", STATE, RefusalsTest::allPatches, (x, a) -> x.invert(a[0]), index(24));
        scene("invert of none", RefusalsTest::nothing, (x, a) -> x.invert(a[0]), index(0));
    }

    private static Arg follower() {
        return arg().good(1).bad(STATE, 0).bad(INDEX, -1, 2, MIN, MAX);
    }

    private static Arg theFirst() {
        return arg().good(0).bad(INDEX, -1, 2, MIN, MAX);
    }

    private static void joiningPatches() {
        scene("join", RefusalsTest::furnish, (x, a) -> x.join(a[0], a[1]), theFirst(), follower());
        scene("join to the 25th", STATE, RefusalsTest::allPatchesOfNoHunks, (x, a) -> x.join(a[0], a[1]),
                index(24), index(24));
        scene("join what does not follow, to the 25th", STATE, RefusalsTest::allPatches, (x, a) -> x.join(a[0], a[1]),
                index(24), index(24));
        scene("depends", RefusalsTest::furnish, (x, a) -> x.depends(a[0], a[1]) ? 1 : 0, theFirst(), follower());
        scene("depends, with 24 patches", RefusalsTest::allPatchesOfNoHunks, (x, a) -> x.depends(a[0], a[1]) ? 1 : 0,
                index(24), index(24));
        scene("depends, on none", RefusalsTest::nothing, (x, a) -> x.depends(a[0], a[1]) ? 1 : 0, index(0), index(0));
    }

    private static void movingPatchesPast() {
        scene("past", RefusalsTest::apart, (x, a) -> x.past(a[0], a[1], a[2] > 0), theFirst(), follower(), flag());
        scene("past, though one depends", STATE, RefusalsTest::furnish, (x, a) -> x.past(a[0], a[1], a[2] > 0),
                index(2), index(2), flag());
        scene("past, with 17 lines between", STATE, RefusalsTest::apartAndLong, (x, a) -> x.past(a[0], a[1], a[2] > 0),
                theFirst(), follower(), flag());
        scene("past, for the 25th", STATE, RefusalsTest::allPatchesOfNoHunks, (x, a) -> x.past(a[0], a[1], a[2] > 0),
                index(24), index(24), flag());
    }

    private static long split(PatchBench x, int[] a) {
        return x.split(a[0], a[1], a[2], a[3], a[4] > 0);
    }

    private static void splittingPatches() {
        scene("split", b -> b.make(LEAST, t(1, 2, 3), t(1, 9, 8, 3)), RefusalsTest::split,
                index(1), index(1), range(0, 1), range(0, 2), flag());
        scene("split the second hunk", b -> b.make(LEAST, t(1, 2, 3), t(9, 2, 8, 7)), RefusalsTest::split,
                index(1), arg().good(1).bad(INDEX, -1, 2, MIN, MAX), range(0, 1), range(0, 2), flag());
        scene("split a full text with 17 lines between", STATE, RefusalsTest::apartInOneHunk, RefusalsTest::split,
                index(1), index(1), arg().good(0).bad(ARGUMENT, -1, 2, MIN, MAX),
                arg().good(1).bad(ARGUMENT, -1, 2, MIN, MAX), flag());
        scene("split a full text with 16 lines between", RefusalsTest::apartInOneHunk, RefusalsTest::split,
                index(1), index(1), arg().good(1), range(0, 1), flag());
        scene("split to the 25th", STATE, RefusalsTest::allPatches, RefusalsTest::split,
                index(24), index(1), range(0, 1), range(0, 0), flag());
        scene("split without hunks", RefusalsTest::allPatchesOfNoHunks, RefusalsTest::split,
                index(24), index(0), arg().good(0, 1, -1), arg().good(0, 1, -1), flag());
    }

    private static void apartInOneHunk(Bench b) {
        int[] changed = DISTINCT.clone();
        changed[15] = 21;
        b.make(LEAST, DISTINCT, changed);
    }

    private static void readingPatches() {
        scene("patches", RefusalsTest::furnish, (x, a) -> x.patches());
        scene("lineIn", RefusalsTest::furnish, (x, a) -> x.lineIn(a[0], a[1] > 0, a[2]),
                index(2), flag(), arg().good(0, 3, 4, 16, MAX).bad(INDEX, -1, MIN));
        scene("pairIn", RefusalsTest::furnish, (x, a) -> x.pairIn(a[0], a[1]), theFirst(), index(3));
        scene("pairIn of the second", RefusalsTest::furnish, (x, a) -> x.pairIn(a[0], a[1]),
                arg().good(1).bad(INDEX, -1, 2, MIN, MAX), index(4));
        scene("hunks", RefusalsTest::furnish, (x, a) -> x.hunks(a[0]), index(2));
        scene("hunk", RefusalsTest::furnish, (x, a) -> x.hunk(a[0], a[1], a[2]), index(2), index(2), range(0, 3));
        scene("hunk of no hunks", RefusalsTest::allPatchesOfNoHunks, (x, a) -> x.hunk(a[0], a[1], a[2]),
                index(24), index(0), range(0, 3));
        scene("movedTo", RefusalsTest::furnish, (x, a) -> x.movedTo(a[0], a[1]), theFirst(), index(3));
        scene("areEqual", RefusalsTest::furnish, (x, a) -> x.areEqual(a[0], a[1]) ? 1 : 0, index(2), index(2));
        scene("distance", RefusalsTest::furnish, (x, a) -> x.distance(a[0], a[1]), index(2), index(2));
        scene("hunks of none", RefusalsTest::nothing, (x, a) -> x.hunks(a[0]), index(0));
        scene("lineIn of none", RefusalsTest::nothing, (x, a) -> x.lineIn(a[0], a[1] > 0, a[2]), index(0), flag(), index(1));
        scene("areEqual of none", RefusalsTest::nothing, (x, a) -> x.areEqual(a[0], a[1]) ? 1 : 0, index(0), index(0));
        scene("distance of none", RefusalsTest::nothing, (x, a) -> x.distance(a[0], a[1]), index(0), index(0));
    }

    // ---- promises 25 to 29

    /** A patch that adds a line wherever it is put, though it is not put on yet. */
    private static void growing(Bench b) {
        fullTexts(b);
        b.fill(1);
        b.fill(2, 5);
        b.bench.make(1, 2, LEAST);
        b.fill(1, DISTINCT);
        b.fill(2, DISTINCT);
    }

    private static void putting() {
        scene("putOn", RefusalsTest::furnish, (x, a) -> x.putOn(a[0], a[1], a[2]), index(2), index(4), range(0, 3));
        scene("putOn a full text", STATE, RefusalsTest::growing, (x, a) -> x.putOn(a[0], a[1], a[2]),
                arg().good(2).bad(INDEX, -1, 3, MIN, MAX), index(4), range(0, 3));
        scene("putOn of none", RefusalsTest::nothing, (x, a) -> x.putOn(a[0], a[1], a[2]), index(0), index(4), range(0, 3));
        scene("putAt", RefusalsTest::furnish, (x, a) -> x.putAt(a[0]), index(2));
        scene("putAt, none was put", RefusalsTest::apart, (x, a) -> x.putAt(a[0]), index(0));
        scene("putAt, refused after one", RefusalsTest::growing, (x, a) -> x.putAt(a[0]), index(2));
    }

    private static void manyConflicts(Bench b) {
        furnish(b);
        b.fill(3, 50001, 50002, 50003, 50001, 6, 50002, 50003, 50003);
    }

    private static void longSides(Bench b) {
        furnish(b);
        b.fill(0, 1);
        b.fill(1, 2, 2, 2, 2, 2, 2, 2);
        b.bench.make(0, 1, LEAST);
        b.fill(1, 3, 3, 3, 3, 3, 3, 3);
        b.bench.make(0, 1, LEAST);
    }

    private static void merging() {
        scene("merge", RefusalsTest::furnish, (x, a) -> x.merge(a[0], a[1], a[2]), theFirst(),
                arg().good(0).bad(STATE, 1).bad(INDEX, -1, 2, MIN, MAX), index(4));
        scene("merge to 17 lines", STATE, RefusalsTest::longSides, (x, a) -> x.merge(a[0], a[1], a[2]),
                arg().good(2).bad(INDEX, -1, 4, MIN, MAX), arg().good(3).bad(INDEX, -1, 4, MIN, MAX), index(4));
        scene("conflicts", RefusalsTest::furnish, (x, a) -> x.conflicts(a[0]), index(4));
        scene("resolve", RefusalsTest::furnish, (x, a) -> x.resolve(a[0], a[1], a[2]),
                arg().good(3).bad(INDEX, 0, -1, 4, MIN, MAX), index(1), range(1, 3));
        scene("resolve one of two", RefusalsTest::manyConflicts, (x, a) -> x.resolve(a[0], a[1], a[2]),
                arg().good(3).bad(INDEX, 0, -1, 4, MIN, MAX), index(2), range(1, 3));
        scene("resolve where there is none", RefusalsTest::onlyTexts, (x, a) -> x.resolve(a[0], a[1], a[2]),
                index(4), index(0), range(1, 3));
    }

    // ---- promises 30 to 44

    private static void theBaseAndPushes() {
        scene("setBase", RefusalsTest::onlyTexts, (x, a) -> x.setBase(a[0]), index(4));
        scene("setBase under patches", STATE, RefusalsTest::furnish, (x, a) -> x.setBase(a[0]), index(4));
        scene("push", RefusalsTest::furnish, (x, a) -> x.push(a[0]), arg().good(0).bad(STATE, 1).bad(INDEX, -1, 2, MIN, MAX));
        scene("push the sixth", STATE, RefusalsTest::allLayers, (x, a) -> x.push(a[0]), index(2));
        scene("push of none", RefusalsTest::nothing, (x, a) -> x.push(a[0]), index(0));
        scene("pop", RefusalsTest::furnish, (x, a) -> x.pop());
        scene("pop of none", STATE, RefusalsTest::onlyTexts, (x, a) -> x.pop());
    }

    private static void takingAndSwapping() {
        scene("take", RefusalsTest::furnish, (x, a) -> x.take(a[0]), index(2));
        scene("take the 25th", STATE, RefusalsTest::allPatches, (x, a) -> x.take(a[0]), index(1));
        scene("take of none", RefusalsTest::onlyTexts, (x, a) -> x.take(a[0]), index(0));
        scene("swap", RefusalsTest::apart, (x, a) -> x.swap(a[0]), arg().good(0).bad(INDEX, -1, 1, 2, MIN, MAX));
        scene("swap, though one depends", STATE, RefusalsTest::allLayers, (x, a) -> x.swap(a[0]),
                arg().good(0, 3).bad(INDEX, -1, 4, 5, MIN, MAX));
        scene("swap, with 17 lines between", STATE, RefusalsTest::apartAndLong, (x, a) -> x.swap(a[0]),
                arg().good(0).bad(INDEX, -1, 1, 2, MIN, MAX));
        scene("swap of one", RefusalsTest::allPatches, (x, a) -> x.swap(a[0]), index(0));
        scene("swap of none", RefusalsTest::nothing, (x, a) -> x.swap(a[0]), index(0));
    }

    private static void foldingAndEditing() {
        scene("fold", RefusalsTest::furnish, (x, a) -> x.fold(a[0]), arg().good(0).bad(INDEX, -1, 1, 2, MIN, MAX));
        scene("fold of five", RefusalsTest::allLayers, (x, a) -> x.fold(a[0]), arg().good(0, 3).bad(INDEX, -1, 4, 5, MIN, MAX));
        scene("fold of one", RefusalsTest::allPatches, (x, a) -> x.fold(a[0]), index(0));
        scene("fold of none", RefusalsTest::nothing, (x, a) -> x.fold(a[0]), index(0));
        scene("edit", RefusalsTest::furnish, (x, a) -> x.edit(a[0], a[1], a[2]), theFirst(),
                arg().good(1, 3).bad(STATE, 0, 2).bad(INDEX, -1, 4, MIN, MAX), line());
        scene("edit the last of five", RefusalsTest::allLayers, (x, a) -> x.edit(a[0], a[1], a[2]),
                arg().good(4).bad(INDEX, -1, 5, MIN, MAX), arg().good(1, 3).bad(STATE, 0, 2).bad(INDEX, -1, 4, MIN, MAX), line());
        scene("edit what drops all", RefusalsTest::allPatches, (x, a) -> x.edit(a[0], a[1], a[2]), index(1), index(0), line());
        scene("edit of none", RefusalsTest::nothing, (x, a) -> x.edit(a[0], a[1], a[2]), index(0), index(1), line());
        scene("refresh", RefusalsTest::furnish, (x, a) -> x.refresh(a[0], a[1]), index(4), range(0, 2));
        scene("refresh of none", STATE, RefusalsTest::onlyTexts, (x, a) -> x.refresh(a[0], a[1]), index(4), range(0, 2));
    }

    private static void readingTheStack() {
        scene("height", RefusalsTest::furnish, (x, a) -> x.height());
        scene("nameAt", RefusalsTest::furnish, (x, a) -> x.nameAt(a[0]), index(2));
        scene("nameAt of none", RefusalsTest::nothing, (x, a) -> x.nameAt(a[0]), index(0));
        scene("top", RefusalsTest::furnish, (x, a) -> x.top(a[0]), arg().good(0, 2, 3, 16, MAX).bad(INDEX, -1, MIN));
        scene("needs", RefusalsTest::furnish, (x, a) -> x.needs(a[0]), index(2));
        scene("needs of five", RefusalsTest::allLayers, (x, a) -> x.needs(a[0]), index(5));
        scene("needs of none", RefusalsTest::nothing, (x, a) -> x.needs(a[0]), index(0));
        scene("orders", RefusalsTest::furnish, (x, a) -> x.orders());
        scene("orders of five", STATE, RefusalsTest::allLayers, (x, a) -> x.orders());
        scene("blame", RefusalsTest::furnish, (x, a) -> x.blame(a[0]), index(3));
        scene("blame in an empty text", RefusalsTest::allPatches, (x, a) -> x.blame(a[0]), index(0));
        scene("began", RefusalsTest::furnish, (x, a) -> x.began(a[0]), index(3));
        scene("began in an empty text", RefusalsTest::allPatches, (x, a) -> x.began(a[0]), index(0));
    }

    // ---- promises 45 to 56

    private static void allDifferences(Bench b) {
        furnish(b);
        for (int i = 2; i < 10; i++) {
            b.bench.difference(1, 0);
        }
    }

    private static void trees() {
        scene("setFile", RefusalsTest::furnish, (x, a) -> x.setFile(a[0], a[1], a[2]) ? 1 : 0,
                index(3), index(6), arg().good(NONE, 0, 3).bad(INDEX, -2, 4, MIN, MAX));
        scene("difference", RefusalsTest::furnish, (x, a) -> x.difference(a[0], a[1]), index(3), index(3));
        scene("the eleventh difference", STATE, RefusalsTest::allDifferences, (x, a) -> x.difference(a[0], a[1]),
                index(3), index(3));
        scene("compose", RefusalsTest::furnish, (x, a) -> x.compose(a[0], a[1]), index(2), index(2));
        scene("compose the eleventh", STATE, RefusalsTest::allDifferences, (x, a) -> x.compose(a[0], a[1]),
                index(10), index(10));
        scene("compose of none", RefusalsTest::nothing, (x, a) -> x.compose(a[0], a[1]), index(0), index(0));
        scene("wentTo", RefusalsTest::furnish, (x, a) -> x.wentTo(a[0], a[1]), index(2), index(6));
        scene("wentTo of none", RefusalsTest::nothing, (x, a) -> x.wentTo(a[0], a[1]), index(0), index(6));
    }

    private static void fullRows(Bench b) {
        for (int i = 0; i < 4 * 40; i++) {
            b.bench.addByte(i % 4, i);
        }
    }

    private static void bytes() {
        scene("addByte", RefusalsTest::furnish, (x, a) -> x.addByte(a[0], a[1]), index(4), range(0, 255));
        scene("addByte to a full row", STATE, RefusalsTest::fullRows, (x, a) -> x.addByte(a[0], a[1]),
                index(4), range(0, 255));
        scene("clear", RefusalsTest::furnish, (x, a) -> x.clear(a[0]), index(4));
        scene("byteAt", RefusalsTest::furnish, (x, a) -> x.byteAt(a[0], a[1]),
                index(4), arg().good(0, 3, 4, 39, 40, MAX).bad(INDEX, -1, MIN));
        scene("delta", RefusalsTest::furnish, (x, a) -> x.delta(a[0], a[1]), index(4), index(4));
        scene("the eleventh delta", STATE, RefusalsTest::allDeltas, (x, a) -> x.delta(a[0], a[1]), index(4), index(4));
    }

    private static void allDeltas(Bench b) {
        furnish(b);
        for (int i = 2; i < 10; i++) {
            b.bench.delta(1, 1);
        }
    }

    /** The third delta makes no bytes for the first two to copy. */
    private static void shortDelta(Bench b) {
        furnish(b);
        b.bench.delta(0, 2);
    }

    private static void deltas() {
        scene("chain", RefusalsTest::furnish, (x, a) -> x.chain(a[0], a[1]), index(2), index(2));
        scene("chain of too few bytes", STATE, RefusalsTest::shortDelta, (x, a) -> x.chain(a[0], a[1]),
                arg().good(2).bad(INDEX, -1, 3, MIN, MAX), arg().good(0, 1).bad(INDEX, -1, 3, MIN, MAX));
        scene("chain the eleventh", STATE, RefusalsTest::allDeltas, (x, a) -> x.chain(a[0], a[1]), index(10), index(10));
        scene("chain of none", RefusalsTest::nothing, (x, a) -> x.chain(a[0], a[1]), index(0), index(0));
        scene("sizeOf", RefusalsTest::furnish, (x, a) -> x.sizeOf(a[0]), index(2));
        scene("sizeOf none", RefusalsTest::nothing, (x, a) -> x.sizeOf(a[0]), index(0));
        scene("step", RefusalsTest::furnish, (x, a) -> x.step(a[0], a[1]),
                index(2), arg().good(0, 1, 2, MAX).bad(INDEX, -1, MIN));
        scene("step of none", RefusalsTest::nothing, (x, a) -> x.step(a[0], a[1]), index(0), index(1));
        scene("putDelta", RefusalsTest::furnish, (x, a) -> x.putDelta(a[0], a[1], a[2]),
                index(2), arg().good(0, 1).bad(STATE, 2, 3).bad(INDEX, -1, 4, MIN, MAX), index(4));
        scene("putDelta of none", RefusalsTest::nothing, (x, a) -> x.putDelta(a[0], a[1], a[2]), index(0), index(4), index(4));
    }
}
