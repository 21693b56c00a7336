import java.lang.reflect.InvocationTargetException;
import java.lang.reflect.Method;
import java.util.ArrayList;
import java.util.HashMap;
import java.util.List;
import java.util.Map;
import java.util.Random;

/**
 * Long runs of calls by fixed seeds, each asked of the class and of the Model, which must answer the same.
 * A second argument tells how many runs, a third one the first seed.
 */
public final class RandomRunsTest {
    private static final int RUNS = 600;
    private static final int CALLS = 512;
    private static final Map<String, Method> OURS = methodsOf(PatchBench.class);
    private static final Map<String, Method> MODELS = methodsOf(Model.class);
    private static final Map<String, Integer> ANSWERED = new HashMap<>();
    private static final Map<String, Integer> REFUSED = new HashMap<>();

    private final Random random;
    private final PatchBench bench = new PatchBench();
    private final Model model = new Model();
    private final List<String> log = new ArrayList<>();
    private final int[] words;
    private final int topic;
    private boolean isWrong;

    private RandomRunsTest(long seed) {
        random = new Random(seed * 7919 + 13);
        topic = random.nextInt(5);
        words = new int[2 + random.nextInt(7)];
        int style = random.nextInt(3);
        for (int i = 0; i < words.length; i++) {
            words[i] = aLine(style);
        }
    }

    public static void main(String[] args) {
        int runs = args.length > 1 ? Integer.parseInt(args[1]) : RUNS;
        int first = args.length > 2 ? Integer.parseInt(args[2]) : 0;
        int wrong = 0;
        for (int seed = first; seed < first + runs && wrong < 5; seed++) {
            RandomRunsTest run = new RandomRunsTest(seed);
            run.run();
            if (run.isWrong) {
                wrong++;
                System.out.println("RandomRunsTest: seed " + seed + ", call " + run.log.size());
                for (String line : run.log.subList(Math.max(0, run.log.size() - 12), run.log.size())) {
                    System.out.println("    " + line);
                }
            }
        }
        System.out.println("RandomRunsTest: " + runs + " runs, " + wrong + " wrong");
        if (args.length > 1) {
            for (String name : new java.util.TreeSet<>(OURS.keySet())) {
                System.out.println(name + ": " + ANSWERED.get(name) + " answered, " + REFUSED.get(name) + " refused");
            }
        }
        if (wrong > 0) {
            System.exit(1);
        }
    }

    private static Map<String, Method> methodsOf(Class<?> owner) {
        Map<String, Method> all = new HashMap<>();
        for (Method method : owner.getDeclaredMethods()) {
            boolean isCall = !java.lang.reflect.Modifier.isStatic(method.getModifiers())
                    && !java.lang.reflect.Modifier.isPrivate(method.getModifiers());
            if (isCall) {
                all.put(method.getName(), method);
            }
        }
        return all;
    }

    // ---- asking both

    private static String ask(Map<String, Method> methods, Object object, String name, Object... args) {
        try {
            return "" + methods.get(name).invoke(object, args);
        } catch (InvocationTargetException e) {
            return "throws " + e.getCause().getClass().getSimpleName();
        } catch (IllegalAccessException e) {
            throw new IllegalStateException(e);
        }
    }

    private void call(String name, Object... args) {
        if (isWrong) {
            return;
        }
        String got = ask(OURS, bench, name, args);
        String want = ask(MODELS, model, name, args);
        StringBuilder told = new StringBuilder(name).append("(");
        for (int i = 0; i < args.length; i++) {
            told.append(i > 0 ? ", " : "").append(args[i]);
        }
        told.append(") answered ").append(got);
        (got.startsWith("throws") ? REFUSED : ANSWERED).merge(name, 1, Integer::sum);
        if (!got.equals(want)) {
            isWrong = true;
            told.append(", due is ").append(want);
        }
        log.add(told.toString());
    }

    private void run() {
        for (int text = 0; text < 4; text++) {
            fill(text, random.nextInt(topic == 0 ? 17 : 10));
        }
        while (log.size() < CALLS && !isWrong) {
            oneOf(random.nextInt(100));
        }
        sweep();
    }

    private void oneOf(int choice) {
        if (choice < 15) {
            change();
        } else if (choice < 55) {
            patchCall();
        } else if (choice < 70) {
            putCall();
        } else if (choice < 90 || topic == 3) {
            stackCall();
        } else if (choice < 95) {
            treeCall();
        } else {
            byteCall();
        }
    }

    // ---- arguments

    private int aLine(int style) {
        int most = style == 0 ? 2 : style == 1 ? 4 : 9;
        int count = random.nextInt(style == 0 ? 3 : 5);
        int number = 0;
        for (int i = 0; i < count; i++) {
            number = 10 * number + 1 + random.nextInt(most);
        }
        return number == 0 ? 0 : number + 10000 * random.nextInt(style == 0 ? 2 : 4);
    }

    private int line() {
        int choice = random.nextInt(60);
        if (choice == 0) {
            return new int[] {-1, 10, 40001, 50000, 50004, 10000, 1011, 101}[random.nextInt(8)];
        }
        if (choice < 3 || topic == 4 && choice < 20) {
            return 50001 + random.nextInt(3);
        }
        return choice < 6 ? aLine(2) : words[random.nextInt(words.length)];
    }

    private int upTo(int count) {
        int odd = random.nextInt(60);
        if (odd < 4) {
            return new int[] {-1, count, Integer.MAX_VALUE, Integer.MIN_VALUE}[odd];
        }
        return count > 0 ? random.nextInt(count) : 0;
    }

    private int text() {
        return upTo(4);
    }

    private int way() {
        return upTo(3);
    }

    private int patch() {
        return upTo(model.changes.size());
    }

    private boolean coin() {
        return random.nextBoolean();
    }

    private List<Integer> linesOf(int text) {
        return text >= 0 && text < 4 ? model.texts.get(text) : List.of();
    }

    private List<int[]> hunksOf(int patch) {
        return patch >= 0 && patch < model.changes.size() ? model.changes.get(patch).hunks() : List.of();
    }

    /** A patch that can follow another one, if there is one. */
    private int follower(int patch) {
        if (patch >= 0 && patch < model.changes.size() && random.nextInt(12) > 0) {
            List<Integer> wanted = model.changes.get(patch).after;
            int start = random.nextInt(model.changes.size());
            for (int k = 0; k < model.changes.size(); k++) {
                int other = (start + k) % model.changes.size();
                if (model.changes.get(other).before.equals(wanted)) {
                    return other;
                }
            }
        }
        return patch();
    }

    private int sibling(int patch) {
        if (patch >= 0 && patch < model.changes.size() && random.nextInt(12) > 0) {
            int start = random.nextInt(model.changes.size());
            for (int k = 0; k < model.changes.size(); k++) {
                int other = (start + k) % model.changes.size();
                if (model.changes.get(other).before.equals(model.changes.get(patch).before)) {
                    return other;
                }
            }
        }
        return patch();
    }

    // ---- calls

    private void fill(int text, int length) {
        for (int i = 0; i < length; i++) {
            call("put", text, random.nextInt(linesOf(text).size() + 1), line());
        }
    }

    private void change() {
        int text = text();
        int choice = random.nextInt(10);
        if (choice < 3) {
            call("put", text, upTo(linesOf(text).size() + 1), line());
        } else if (choice < 5 || linesOf(text).size() > 12) {
            call("cut", text, upTo(linesOf(text).size()));
        } else if (choice < 7) {
            int other = text();
            call("copy", text, other);
            alter(other, 1 + random.nextInt(4));
        } else if (choice == 7) {
            call("likeness", line(), line());
        } else if (choice == 8) {
            call("lineAt", text, upTo(linesOf(text).size()));
        } else {
            call("length", text);
        }
    }

    /** Some changes of lines, some of a few lines together. */
    private void alter(int text, int times) {
        for (int i = 0; i < times && !isWrong; i++) {
            List<Integer> lines = linesOf(text);
            int place = random.nextInt(lines.size() + 1);
            if (coin() && place < lines.size()) {
                call("cut", text, place);
            }
            if (coin() && !isWrong && linesOf(text).size() < 16) {
                call("put", text, Math.min(place, linesOf(text).size()), line());
            }
        }
    }

    private void patchCall() {
        int patch = patch();
        int choice = random.nextInt(26);
        switch (choice) {
            case 0, 1, 2 -> call("make", text(), text(), way());
            case 3 -> makeNext(patch);
            case 4 -> call("invert", patch);
            case 5 -> call("join", patch, follower(patch));
            case 6, 7 -> call("depends", patch, follower(patch));
            case 8, 9, 10 -> call("past", patch, follower(patch), coin());
            case 11, 12 -> split(patch);
            case 13 -> call("lineIn", patch, coin(), upTo(18));
            case 14 -> call("pairIn", patch, upTo(10));
            case 15 -> call("hunks", patch);
            case 16 -> call("hunk", patch, upTo(hunksOf(patch).size()), upTo(4));
            case 17, 18 -> call("movedTo", patch, upTo(8));
            case 19 -> call("areEqual", patch, patch());
            case 20 -> call("distance", patch, patch());
            case 21 -> call("patches");
            case 22, 23 -> call("pairOf", text(), text(), way(), upTo(8));
            case 24 -> call("kept", text(), text(), way());
            default -> call("keptByTable", text(), text());
        }
    }

    /** A patch from the new text of one to something near it. */
    private void makeNext(int patch) {
        if (patch < 0 || patch >= model.changes.size() || model.changes.size() >= 23) {
            return;
        }
        bring(2, model.changes.get(patch).after);
        call("copy", 2, 3);
        alter(3, 1 + random.nextInt(3));
        call("make", 2, 3, random.nextInt(3));
        call("past", patch, model.changes.size() - 1, coin());
    }

    private void bring(int text, List<Integer> wanted) {
        List<Integer> lines = new ArrayList<>(wanted);
        if (linesOf(text).equals(lines)) {
            return;
        }
        while (!linesOf(text).isEmpty() && !isWrong) {
            call("cut", text, linesOf(text).size() - 1);
        }
        for (int i = 0; i < lines.size(); i++) {
            call("put", text, i, lines.get(i));
        }
    }

    private void split(int patch) {
        int hunk = upTo(hunksOf(patch).size());
        boolean isThere = hunk >= 0 && hunk < hunksOf(patch).size();
        int[] h = isThere ? hunksOf(patch).get(hunk) : new int[4];
        call("split", patch, hunk, upTo(h[1] - h[0] + 1), upTo(h[3] - h[2] + 1), coin());
    }

    private void putCall() {
        int patch = patch();
        int choice = random.nextInt(10);
        int text = text();
        if (choice < 4) {
            if (patch >= 0 && patch < model.changes.size() && text >= 0 && text < 4 && coin()) {
                bring(text, model.changes.get(patch).before);
                alter(text, random.nextInt(4));
            }
            call("putOn", patch, text, upTo(4));
            call("putAt", upTo(4));
            call("putAt", upTo(2));
        } else if (choice < 7) {
            call("merge", patch, sibling(patch), text);
        } else if (choice == 7) {
            call("conflicts", text);
        } else {
            int count = text >= 0 && text < 4 ? model.conflicts(text) : 1;
            call("resolve", text, upTo(count), 1 + upTo(3));
        }
    }

    private void stackCall() {
        int k = upTo(model.stack.size());
        int size = model.stack.isEmpty() ? model.base.size() : model.stack.get(model.stack.size() - 1).after.size();
        switch (random.nextInt(17)) {
            case 0 -> call("setBase", text());
            case 1, 2, 3 -> pushNext();
            case 4 -> call("pop");
            case 5 -> call("take", k);
            case 6, 7 -> call("swap", upTo(model.stack.size() - 1));
            case 8 -> fold();
            case 9, 10 -> edit(k);
            case 11 -> refresh();
            case 12 -> readStack();
            case 13 -> call("needs", k);
            case 14 -> call("orders");
            default -> {
                int place = upTo(size);
                call("blame", place);
                call("began", place);
            }
        }
    }

    private void fold() {
        if (random.nextInt(3) == 0) {
            call("fold", upTo(model.stack.size() - 1));
        }
    }

    private void readStack() {
        call("height");
        call("nameAt", upTo(model.stack.size()));
        call("top", upTo(12));
    }

    private void edit(int k) {
        if (k < 0 || k >= model.stack.size()) {
            call("edit", k, 0, line());
            return;
        }
        int place = upTo(model.stack.get(k).after.size());
        for (int i = 0; i < 6; i++) {
            boolean isIn = place >= 0 && place < model.stack.get(k).after.size();
            if (isIn && model.stack.get(k).from(place) != Model.NONE) {
                place = upTo(model.stack.get(k).after.size());
            }
        }
        call("edit", k, place, line());
    }

    private void refresh() {
        int text = text();
        if (coin() && text >= 0 && text < 4 && !model.stack.isEmpty()) {
            bring(text, model.stack.get(model.stack.size() - 1).after);
            alter(text, 2);
        }
        call("refresh", text, way());
    }

    private void pushNext() {
        if (random.nextInt(3) == 0) {
            call("push", patch());
            return;
        }
        List<Integer> top = model.stack.isEmpty() ? model.base : model.stack.get(model.stack.size() - 1).after;
        for (int patch = 0; patch < model.changes.size(); patch++) {
            if (model.changes.get(patch).before.equals(top) && random.nextInt(4) == 0) {
                call("push", patch);
                return;
            }
        }
        if (model.changes.size() < 24 && model.stack.size() < 5) {
            bring(0, top);
            call("copy", 0, 1);
            alter(1, 1 + random.nextInt(3));
            call("make", 0, 1, random.nextInt(3));
            call("push", model.changes.size() - 1);
        }
    }

    private void treeCall() {
        switch (random.nextInt(8)) {
            case 0, 1, 2, 3 -> call("setFile", upTo(3), upTo(6), random.nextInt(4) > 0 ? text() : Model.NONE);
            case 4 -> call("difference", upTo(3), upTo(3));
            case 5 -> call("compose", upTo(model.differences.size()), upTo(model.differences.size()));
            default -> {
                int difference = upTo(model.differences.size());
                for (int name = -1; name <= 6; name++) {
                    call("wentTo", difference, name);
                }
            }
        }
    }

    private void byteCall() {
        int row = text();
        int delta = upTo(model.deltas.size());
        switch (random.nextInt(9)) {
            case 0, 1, 2 -> {
                int count = random.nextInt(8);
                for (int i = 0; i < count; i++) {
                    call("addByte", row, random.nextInt(30) == 0 ? upTo(256) : 65 + random.nextInt(3));
                }
            }
            case 3 -> {
                if (random.nextInt(4) == 0) {
                    call("clear", row);
                }
                call("byteAt", row, upTo(42));
            }
            case 4 -> call("delta", row, text());
            case 5 -> call("chain", delta, upTo(model.deltas.size()));
            case 6 -> call("sizeOf", delta);
            case 7 -> {
                for (int step = -1; step < 5; step++) {
                    call("step", delta, step);
                }
            }
            default -> call("putDelta", delta, row, text());
        }
    }

    /** What can be seen of the state at the end. */
    private void sweep() {
        for (int i = 0; i < 4; i++) {
            for (int place = 0; place < linesOf(i).size(); place++) {
                call("lineAt", i, place);
            }
            for (int place = 0; place < 40; place++) {
                call("byteAt", i, place);
            }
        }
        for (int patch = 0; patch < model.changes.size(); patch++) {
            for (int place = 0; place < 16; place++) {
                call("lineIn", patch, false, place);
                call("lineIn", patch, true, place);
                call("pairIn", patch, place);
                call("movedTo", patch, place);
            }
            for (int h = 0; h < hunksOf(patch).size(); h++) {
                for (int what = 0; what < 4; what++) {
                    call("hunk", patch, h, what);
                }
            }
        }
        for (int hunk = 0; hunk < 17; hunk++) {
            call("putAt", hunk);
        }
        sweepStack();
    }

    private void sweepStack() {
        for (int place = 0; place < 17; place++) {
            call("top", place);
            call("blame", place);
            call("began", place);
        }
        call("orders");
        for (int k = 0; k < 5; k++) {
            call("nameAt", k);
            call("needs", k);
        }
        int height = model.stack.size();
        for (int k = 0; k < height; k++) {
            call("pop");
            call("top", 3);
        }
    }
}
