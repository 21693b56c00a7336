import java.util.ArrayList;
import java.util.Arrays;
import java.util.HashMap;
import java.util.HashSet;
import java.util.List;
import java.util.Map;
import java.util.Set;

/**
 * The document said once more, slowly and with the library's collections: it tries all where the class is clever.
 * RandomRunsTest asks both the same.
 */
final class Model {
    static final int NONE = -1;

    /** An old text, a new text, and for each old line the place of its partner, or NONE. */
    static final class Change {
        final List<Integer> before;
        final List<Integer> after;
        final int[] to;

        Change(List<Integer> before, List<Integer> after, int[] to) {
            this.before = new ArrayList<>(before);
            this.after = new ArrayList<>(after);
            this.to = to.clone();
        }

        Change twin() {
            return new Change(before, after, to);
        }

        int from(int n) {
            for (int i = 0; i < to.length; i++) {
                if (to[i] == n) {
                    return i;
                }
            }
            return NONE;
        }

        boolean isEqual(Change other) {
            return before.equals(other.before) && after.equals(other.after) && Arrays.equals(to, other.to);
        }

        /** Each hunk as old start, old end, new start, new end: between two pairs that are neighbours. */
        List<int[]> hunks() {
            List<int[]> all = new ArrayList<>();
            int i = -1;
            int n = -1;
            for (int k = 0; k <= before.size(); k++) {
                boolean isEnd = k == before.size();
                if (isEnd || to[k] != NONE) {
                    int end = isEnd ? after.size() : to[k];
                    if (k > i + 1 || end > n + 1) {
                        all.add(new int[] {i + 1, k, n + 1, end});
                    }
                    i = k;
                    n = end;
                }
            }
            return all;
        }
    }

    final List<List<Integer>> texts = new ArrayList<>();
    final List<Change> changes = new ArrayList<>();
    List<Integer> putPlaces = new ArrayList<>();
    List<Integer> base = new ArrayList<>();
    final List<Change> stack = new ArrayList<>();
    final List<Integer> names = new ArrayList<>();
    int nextName;
    final List<Map<Integer, List<Integer>>> trees = new ArrayList<>();
    final List<int[]> differences = new ArrayList<>();
    final List<List<Integer>> rows = new ArrayList<>();
    final List<List<int[]>> deltas = new ArrayList<>();

    Model() {
        for (int i = 0; i < 4; i++) {
            texts.add(new ArrayList<>());
            rows.add(new ArrayList<>());
        }
        for (int i = 0; i < 3; i++) {
            trees.add(new HashMap<>());
        }
    }

    // ---- refusals

    private static void index(boolean isThere) {
        if (!isThere) {
            throw new IndexOutOfBoundsException();
        }
    }

    private static void argument(boolean isGood) {
        if (!isGood) {
            throw new IllegalArgumentException();
        }
    }

    private static void state(boolean isGood) {
        if (!isGood) {
            throw new IllegalStateException();
        }
    }

    private List<Integer> text(int text) {
        index(text >= 0 && text <= 3);
        return texts.get(text);
    }

    private Change change(int patch) {
        index(patch >= 0 && patch < changes.size());
        return changes.get(patch);
    }

    private static void way(int way) {
        argument(way >= 0 && way <= 2);
    }

    private int keepChange(Change change) {
        state(changes.size() < 24);
        changes.add(change.twin());
        return changes.size() - 1;
    }

    // ---- lines

    static String words(int line) {
        return line == 0 ? "" : line > 50000 ? "mark" + line : "" + line % 10000;
    }

    static boolean isMark(int line) {
        return line == 50001 || line == 50002 || line == 50003;
    }

    static boolean isLine(int line) {
        if (line == 0 || isMark(line)) {
            return true;
        }
        return ("" + line).matches("[123]?[1-9]{4}|[123]000[1-9]|[123]00[1-9]{2}|[123]0[1-9]{3}|[1-9]{1,4}");
    }

    static int indent(int line) {
        return isMark(line) ? 0 : line / 10000;
    }

    static int commonWords(String a, String b) {
        if (a.isEmpty() || b.isEmpty()) {
            return 0;
        }
        if (a.charAt(0) == b.charAt(0)) {
            return 1 + commonWords(a.substring(1), b.substring(1));
        }
        return Math.max(commonWords(a.substring(1), b), commonWords(a, b.substring(1)));
    }

    static int alike(int line, int other) {
        if (isMark(line) || isMark(other)) {
            return line == other ? 100 : 0;
        }
        int both = words(line).length() + words(other).length();
        return both == 0 ? 100 : 200 * commonWords(words(line), words(other)) / both;
    }

    int put(int text, int place, int line) {
        List<Integer> lines = text(text);
        index(place >= 0 && place <= lines.size());
        argument(isLine(line));
        state(lines.size() < 16);
        lines.add(place, line);
        return lines.size();
    }

    int cut(int text, int place) {
        List<Integer> lines = text(text);
        index(place >= 0 && place < lines.size());
        return lines.remove(place);
    }

    int copy(int text, int other) {
        List<Integer> lines = text(text);
        text(other);
        texts.set(other, new ArrayList<>(lines));
        return lines.size();
    }

    int length(int text) {
        return text(text).size();
    }

    int lineAt(int text, int place) {
        List<Integer> lines = text(text);
        index(place >= 0 && place < lines.size());
        return lines.get(place);
    }

    int likeness(int line, int other) {
        argument(isLine(line) && isLine(other));
        return alike(line, other);
    }

    // ---- comparing

    static int mostPairs(List<Integer> a, List<Integer> b) {
        int[][] most = new int[a.size() + 1][b.size() + 1];
        for (int i = 1; i <= a.size(); i++) {
            for (int j = 1; j <= b.size(); j++) {
                int with = most[i - 1][j - 1] + (a.get(i - 1).equals(b.get(j - 1)) ? 1 : 0);
                most[i][j] = Math.max(with, Math.max(most[i - 1][j], most[i][j - 1]));
            }
        }
        return most[a.size()][b.size()];
    }

    static int[] compare(List<Integer> a, List<Integer> b, int way) {
        int[] to = new int[a.size()];
        Arrays.fill(to, NONE);
        stretch(a, 0, a.size(), b, 0, b.size(), way, to);
        return to;
    }

    private static void stretch(
            List<Integer> a, int a1, int a2, List<Integer> b, int b1, int b2, int way, int[] to) {
        if (way == 0) {
            least(a, a1, a2, b, b1, b2, to);
            return;
        }
        if (a1 < a2 && b1 < b2 && a.get(a1).equals(b.get(b1))) {
            to[a1] = b1;
            stretch(a, a1 + 1, a2, b, b1 + 1, b2, way, to);
            return;
        }
        if (a1 < a2 && b1 < b2 && a.get(a2 - 1).equals(b.get(b2 - 1))) {
            to[a2 - 1] = b2 - 1;
            // The ends are looked at only behind the beginnings, which can't be the same any more.
            while (true) {
                a2--;
                b2--;
                if (!(a1 < a2 && b1 < b2 && a.get(a2 - 1).equals(b.get(b2 - 1)))) {
                    break;
                }
                to[a2 - 1] = b2 - 1;
            }
        }
        if (way == 1) {
            unique(a, a1, a2, b, b1, b2, to);
        } else {
            rare(a, a1, a2, b, b1, b2, to);
        }
    }

    private static void least(List<Integer> a, int a1, int a2, List<Integer> b, int b1, int b2, int[] to) {
        if (a1 == a2 || b1 == b2) {
            return;
        }
        if (a.get(a1).equals(b.get(b1))) {
            to[a1] = b1;
            least(a, a1 + 1, a2, b, b1 + 1, b2, to);
        } else if (mostPairs(a.subList(a1 + 1, a2), b.subList(b1, b2))
                == mostPairs(a.subList(a1, a2), b.subList(b1, b2))) {
            least(a, a1 + 1, a2, b, b1, b2, to);
        } else {
            least(a, a1, a2, b, b1 + 1, b2, to);
        }
    }

    private static List<Integer> places(List<Integer> lines, int from, int to, int line) {
        List<Integer> all = new ArrayList<>();
        for (int i = from; i < to; i++) {
            if (lines.get(i) == line) {
                all.add(i);
            }
        }
        return all;
    }

    private static void unique(List<Integer> a, int a1, int a2, List<Integer> b, int b1, int b2, int[] to) {
        List<int[]> once = new ArrayList<>();
        for (int i = a1; i < a2; i++) {
            List<Integer> others = places(b, b1, b2, a.get(i));
            if (places(a, a1, a2, a.get(i)).size() == 1 && others.size() == 1) {
                once.add(new int[] {i, others.get(0)});
            }
        }
        if (once.isEmpty()) {
            least(a, a1, a2, b, b1, b2, to);
            return;
        }
        List<int[]> best = new ArrayList<>();
        for (int set = 0; set < 1 << once.size(); set++) {
            List<int[]> chain = chainOf(once, set);
            if (chain != null && (chain.size() > best.size() || chain.size() == best.size() && isLower(chain, best))) {
                best = chain;
            }
        }
        int i = a1;
        int j = b1;
        for (int[] pair : best) {
            to[pair[0]] = pair[1];
            stretch(a, i, pair[0], b, j, pair[1], 1, to);
            i = pair[0] + 1;
            j = pair[1] + 1;
        }
        stretch(a, i, a2, b, j, b2, 1, to);
    }

    private static List<int[]> chainOf(List<int[]> once, int set) {
        List<int[]> chain = new ArrayList<>();
        for (int k = 0; k < once.size(); k++) {
            if ((set >> k & 1) == 1) {
                if (!chain.isEmpty() && chain.get(chain.size() - 1)[1] > once.get(k)[1]) {
                    return null;
                }
                chain.add(once.get(k));
            }
        }
        return chain;
    }

    private static boolean isLower(List<int[]> chain, List<int[]> other) {
        for (int k = 0; k < chain.size(); k++) {
            if (chain.get(k)[0] != other.get(k)[0]) {
                return chain.get(k)[0] < other.get(k)[0];
            }
        }
        return false;
    }

    private static void rare(List<Integer> a, int a1, int a2, List<Integer> b, int b1, int b2, int[] to) {
        for (int often = 1; often <= 3; often++) {
            for (int i = a1; i < a2; i++) {
                List<Integer> others = places(b, b1, b2, a.get(i));
                if (places(a, a1, a2, a.get(i)).size() != often || others.isEmpty()) {
                    continue;
                }
                int j = others.get(0);
                int up = 0;
                while (i - up > a1 && j - up > b1 && a.get(i - up - 1).equals(b.get(j - up - 1))) {
                    up++;
                }
                int down = 0;
                while (i + down + 1 < a2 && j + down + 1 < b2 && a.get(i + down + 1).equals(b.get(j + down + 1))) {
                    down++;
                }
                for (int k = -up; k <= down; k++) {
                    to[i + k] = j + k;
                }
                stretch(a, a1, i - up, b, b1, j - up, 2, to);
                stretch(a, i + down + 1, a2, b, j + down + 1, b2, 2, to);
                return;
            }
        }
        least(a, a1, a2, b, b1, b2, to);
    }

    int pairOf(int text, int other, int way, int place) {
        List<Integer> a = text(text);
        List<Integer> b = text(other);
        index(place >= 0 && place < a.size());
        way(way);
        return compare(a, b, way)[place];
    }

    int kept(int text, int other, int way) {
        List<Integer> a = text(text);
        List<Integer> b = text(other);
        way(way);
        int count = 0;
        for (int to : compare(a, b, way)) {
            count += to == NONE ? 0 : 1;
        }
        return count;
    }

    int keptByTable(int text, int other) {
        List<Integer> a = text(text);
        List<Integer> b = text(other);
        return mostPairs(a, b);
    }

    // ---- patches

    private static Change turned(Change change) {
        int[] to = new int[change.after.size()];
        for (int n = 0; n < to.length; n++) {
            to[n] = change.from(n);
        }
        return new Change(change.after, change.before, to);
    }

    private static Change made(List<Integer> a, List<Integer> b, int way) {
        Change change = new Change(a, b, compare(a, b, way));
        int hunks = change.hunks().size();
        for (int h = 0; h < hunks; h++) {
            int[] hunk = change.hunks().get(h);
            if (hunk[0] == hunk[1]) {
                change = turned(shifted(turned(change), h));
            } else if (hunk[2] == hunk[3]) {
                change = shifted(change, h);
            }
        }
        return change;
    }

    /** All patches that shifting a hunk that only drops leads to, step by step; the best of them. */
    private static Change shifted(Change change, int h) {
        List<Change> all = new ArrayList<>();
        all.add(change);
        for (int direction = -1; direction <= 1; direction += 2) {
            Change next = step(change, h, direction);
            while (next != null) {
                all.add(next);
                next = step(next, h, direction);
            }
        }
        Change best = null;
        for (Change each : all) {
            if (best == null || isBetter(each, best, h)) {
                best = each;
            }
        }
        return best;
    }

    private static Change step(Change change, int h, int direction) {
        int[] hunk = change.hunks().get(h);
        int freed = direction < 0 ? hunk[1] - 1 : hunk[0];
        int taken = direction < 0 ? hunk[0] - 1 : hunk[1];
        if (taken < 0 || taken >= change.before.size() || change.to[taken] == NONE) {
            return null;
        }
        if (!change.before.get(freed).equals(change.before.get(taken))) {
            return null;
        }
        Change next = change.twin();
        next.to[freed] = next.to[taken];
        next.to[taken] = NONE;
        return next.hunks().size() == change.hunks().size() ? next : null;
    }

    private static boolean isBetter(Change each, Change best, int h) {
        int place = each.hunks().get(h)[0];
        int other = best.hunks().get(h)[0];
        boolean isFree = place == 0 || each.before.get(place - 1) == 0;
        boolean isOtherFree = other == 0 || best.before.get(other - 1) == 0;
        if (isFree != isOtherFree) {
            return isFree;
        }
        int indent = indent(each.before.get(place));
        int otherIndent = indent(best.before.get(other));
        return indent != otherIndent ? indent < otherIndent : place > other;
    }

    int make(int text, int other, int way) {
        List<Integer> a = text(text);
        List<Integer> b = text(other);
        way(way);
        return keepChange(made(a, b, way));
    }

    int invert(int patch) {
        return keepChange(turned(change(patch)));
    }

    private static Change joined(Change first, Change second) {
        int[] to = new int[first.before.size()];
        for (int i = 0; i < to.length; i++) {
            to[i] = first.to[i] == NONE ? NONE : second.to[first.to[i]];
        }
        Change loose = new Change(first.before, second.after, to);
        for (int[] hunk : loose.hunks()) {
            int i = hunk[0];
            int n = hunk[2];
            int iEnd = hunk[1];
            int nEnd = hunk[3];
            for (; i < iEnd && n < nEnd && loose.before.get(i).equals(loose.after.get(n)); i++) {
                to[i] = n++;
            }
            for (; i < iEnd && n < nEnd && loose.before.get(iEnd - 1).equals(loose.after.get(nEnd - 1)); iEnd--) {
                to[iEnd - 1] = --nEnd;
            }
        }
        return new Change(first.before, second.after, to);
    }

    int join(int patch, int other) {
        Change first = change(patch);
        Change second = change(other);
        state(first.after.equals(second.before));
        return keepChange(joined(first, second));
    }

    private static boolean touch(int a, int b, int c, int d) {
        return a <= d && c <= b;
    }

    private static boolean isNeeded(Change first, Change second) {
        for (int[] hunk : first.hunks()) {
            for (int[] other : second.hunks()) {
                if (touch(hunk[2], hunk[3], other[0], other[1])) {
                    return true;
                }
            }
        }
        return false;
    }

    boolean depends(int patch, int other) {
        Change first = change(patch);
        Change second = change(other);
        state(first.after.equals(second.before));
        return isNeeded(first, second);
    }

    /** The second patch's hunks, put on the old text of the first one at the places of the lines around them. */
    private static Change early(Change first, Change second) {
        List<Integer> between = new ArrayList<>();
        int[] to = new int[first.before.size()];
        Arrays.fill(to, NONE);
        int i = 0;
        for (int[] hunk : second.hunks()) {
            // What is ahead of the hunk in the text between moves back by what the first patch has added there.
            int start = hunk[0];
            int moved = 0;
            for (int[] own : first.hunks()) {
                if (own[3] < start) {
                    moved = own[1] - own[3];
                }
            }
            for (; i < start + moved; i++) {
                to[i] = between.size();
                between.add(first.before.get(i));
            }
            i += hunk[1] - hunk[0];
            between.addAll(second.after.subList(hunk[2], hunk[3]));
        }
        for (; i < first.before.size(); i++) {
            to[i] = between.size();
            between.add(first.before.get(i));
        }
        return new Change(first.before, between, to);
    }

    /** Both patches moved past each other: the one that comes first, and the one behind it. */
    private static Change[] exchanged(Change first, Change second) {
        Change lower = early(first, second);
        // Seen from the end backwards the first patch, turned, comes early in the same way.
        Change upper = turned(early(turned(second), turned(first)));
        if (!lower.after.equals(upper.before)) {
            throw new AssertionError("the texts between are not the same");
        }
        return new Change[] {lower, upper};
    }

    int past(int patch, int other, boolean isFirst) {
        Change first = change(patch);
        Change second = change(other);
        state(first.after.equals(second.before));
        state(!isNeeded(first, second));
        Change[] both = exchanged(first, second);
        state(both[0].after.size() <= 16);
        return keepChange(isFirst ? both[0] : both[1]);
    }

    int split(int patch, int hunk, int dropped, int added, boolean isFirst) {
        Change whole = change(patch);
        index(hunk >= 0 && hunk < whole.hunks().size());
        int[] h = whole.hunks().get(hunk);
        argument(dropped >= 0 && dropped <= h[1] - h[0] && added >= 0 && added <= h[3] - h[2]);
        List<Integer> between = new ArrayList<>(whole.before.subList(0, h[0]));
        between.addAll(whole.after.subList(h[2], h[2] + added));
        between.addAll(whole.before.subList(h[0] + dropped, whole.before.size()));
        state(between.size() <= 16);
        int[] to = new int[whole.before.size()];
        int[] on = new int[between.size()];
        Arrays.fill(on, NONE);
        for (int i = 0; i < to.length; i++) {
            to[i] = i < h[0] ? i : i < h[0] + dropped ? NONE : i - dropped + added;
            if (to[i] != NONE) {
                on[to[i]] = whole.to[i];
            }
        }
        for (int k = 0; k < added; k++) {
            on[h[0] + k] = h[2] + k;
        }
        return keepChange(isFirst ? new Change(whole.before, between, to) : new Change(between, whole.after, on));
    }

    int patches() {
        return changes.size();
    }

    int lineIn(int patch, boolean isNew, int place) {
        Change change = change(patch);
        index(place >= 0);
        List<Integer> lines = isNew ? change.after : change.before;
        return place < lines.size() ? lines.get(place) : NONE;
    }

    int pairIn(int patch, int place) {
        Change change = change(patch);
        index(place >= 0 && place < change.before.size());
        return change.to[place];
    }

    int hunks(int patch) {
        return change(patch).hunks().size();
    }

    int hunk(int patch, int hunk, int what) {
        List<int[]> all = change(patch).hunks();
        index(hunk >= 0 && hunk < all.size());
        argument(what >= 0 && what <= 3);
        int[] h = all.get(hunk);
        return new int[] {h[0], h[1] - h[0], h[2], h[3] - h[2]}[what];
    }

    /** Of all runs with the old line the best one, as told. */
    private static int goal(Change change, int place) {
        int[] best = null;
        for (int length = 2; length <= 16; length++) {
            for (int i = Math.max(0, place - length + 1); i <= place; i++) {
                for (int n = 0; n + length <= change.after.size(); n++) {
                    if (!isRun(change, i, n, length)) {
                        continue;
                    }
                    boolean isBetter = best == null || length > best[2]
                            || n < best[1] || n == best[1] && i < best[0];
                    if (isBetter) {
                        best = new int[] {i, n, length};
                    }
                }
            }
        }
        return best == null ? NONE : best[1] + place - best[0];
    }

    private static boolean isRun(Change change, int i, int n, int length) {
        if (i + length > change.before.size()) {
            return false;
        }
        boolean hasSame = false;
        for (int k = 0; k < length; k++) {
            int old = change.before.get(i + k);
            int fresh = change.after.get(n + k);
            if (change.to[i + k] != NONE || change.from(n + k) != NONE || alike(old, fresh) < 50) {
                return false;
            }
            hasSame |= old == fresh;
        }
        return hasSame;
    }

    int movedTo(int patch, int place) {
        Change change = change(patch);
        index(place >= 0 && place < change.before.size());
        return goal(change, place);
    }

    boolean areEqual(int patch, int other) {
        Change first = change(patch);
        return first.isEqual(change(other));
    }

    private static List<Integer> rowOfChanges(Change change) {
        List<Integer> row = new ArrayList<>();
        for (int[] hunk : change.hunks()) {
            row.add(300000);
            for (int line : change.before.subList(hunk[0], hunk[1])) {
                row.add(100000 + line);
            }
            for (int line : change.after.subList(hunk[2], hunk[3])) {
                row.add(200000 + line);
            }
        }
        return row;
    }

    int distance(int patch, int other) {
        List<Integer> row = rowOfChanges(change(patch));
        List<Integer> second = rowOfChanges(change(other));
        return row.size() + second.size() - 2 * mostPairs(row, second);
    }

    // ---- putting and merging

    int putOn(int patch, int text, int fuzz) {
        Change change = change(patch);
        List<Integer> lines = text(text);
        argument(fuzz >= 0 && fuzz <= 3);
        List<int[]> hunks = change.hunks();
        List<Integer> found = new ArrayList<>();
        List<Integer> result = new ArrayList<>();
        int rejected = 0;
        int done = 0;
        int[] last = null;
        for (int h = 0; h < hunks.size(); h++) {
            int[] hunk = hunks.get(h);
            int ahead = Math.min(3, hunk[0] - (h > 0 ? hunks.get(h - 1)[1] : 0));
            int next = h + 1 < hunks.size() ? hunks.get(h + 1)[0] : change.before.size();
            int behind = Math.min(3, next - hunk[1]);
            int expected = hunk[0] + (last == null ? 0 : last[0] - last[1]);
            int floor = last == null ? 0 : last[2];
            int answer = place(change, hunk, ahead, behind, lines, fuzz, expected, floor);
            found.add(answer);
            if (answer == NONE) {
                rejected += 1 << h;
                continue;
            }
            int place = answer / 10;
            last = new int[] {place, hunk[0], place + hunk[1] - hunk[0]};
            result.addAll(lines.subList(done, place));
            result.addAll(change.after.subList(hunk[2], hunk[3]));
            done = last[2];
        }
        result.addAll(lines.subList(done, lines.size()));
        state(result.size() <= 16);
        putPlaces = found;
        texts.set(text, result);
        return rejected;
    }

    private static int place(Change change, int[] hunk, int ahead, int behind, List<Integer> lines, int fuzz,
            int expected, int floor) {
        for (int lost = 0; lost <= fuzz; lost++) {
            int a = Math.max(0, ahead - lost);
            int b = Math.max(0, behind - lost);
            List<Integer> window = change.before.subList(hunk[0] - a, hunk[1] + b);
            int best = NONE;
            for (int place = floor; place <= lines.size(); place++) {
                int start = place - a;
                boolean isIn = start >= 0 && start + window.size() <= lines.size();
                if (isIn && lines.subList(start, start + window.size()).equals(window)
                        && (best == NONE || rank(place, expected) < rank(best, expected))) {
                    best = place;
                }
            }
            if (best != NONE) {
                return 10 * best + lost;
            }
        }
        return NONE;
    }

    private static int rank(int place, int expected) {
        int far = Math.abs(place - expected);
        return 2 * far - (place < expected ? 1 : 0);
    }

    int putAt(int hunk) {
        index(hunk >= 0 && hunk < putPlaces.size());
        return putPlaces.get(hunk);
    }

    int merge(int patch, int other, int text) {
        Change first = change(patch);
        Change second = change(other);
        text(text);
        state(first.before.equals(second.before));
        List<int[]> own = first.hunks();
        List<int[]> others = second.hunks();
        // A group for each hunk, and then two become one as long as some of their hunks touch.
        List<List<int[]>> groups = new ArrayList<>();
        for (int[] hunk : own) {
            groups.add(new ArrayList<>(List.of(new int[] {1, hunk[0], hunk[1], hunk[2], hunk[3]})));
        }
        for (int[] hunk : others) {
            groups.add(new ArrayList<>(List.of(new int[] {2, hunk[0], hunk[1], hunk[2], hunk[3]})));
        }
        while (uniteTwo(groups)) {
            continue;
        }
        groups.sort((g, h) -> Integer.compare(low(g), low(h)));
        List<Integer> result = new ArrayList<>();
        int done = 0;
        int marked = 0;
        for (List<int[]> group : groups) {
            int low = low(group);
            int high = 0;
            for (int[] hunk : group) {
                high = Math.max(high, hunk[2]);
            }
            result.addAll(first.before.subList(done, low));
            List<Integer> side = side(first, low, high, group, 1);
            List<Integer> otherSide = side(second, low, high, group, 2);
            boolean isSame = group.size() == 2 && group.get(0)[1] == group.get(1)[1]
                    && group.get(0)[2] == group.get(1)[2] && side.equals(otherSide);
            if (group.size() == 1) {
                result.addAll(group.get(0)[0] == 1 ? side : otherSide);
            } else if (isSame) {
                result.addAll(side);
            } else {
                marked++;
                result.add(50001);
                result.addAll(side);
                result.add(50002);
                result.addAll(otherSide);
                result.add(50003);
            }
            done = high;
        }
        result.addAll(first.before.subList(done, first.before.size()));
        state(result.size() <= 16);
        texts.set(text, result);
        return marked;
    }

    private static int low(List<int[]> group) {
        int low = 99;
        for (int[] hunk : group) {
            low = Math.min(low, hunk[1]);
        }
        return low;
    }

    private static boolean uniteTwo(List<List<int[]>> groups) {
        for (List<int[]> group : groups) {
            for (List<int[]> other : groups) {
                for (int[] hunk : group) {
                    for (int[] second : other) {
                        if (group != other && hunk[0] != second[0]
                                && touch(hunk[1], hunk[2], second[1], second[2])) {
                            group.addAll(other);
                            groups.removeIf(each -> each == other);
                            return true;
                        }
                    }
                }
            }
        }
        return false;
    }

    /** The old lines from low to high, with the group's hunks of one patch done on them. */
    private static List<Integer> side(Change change, int low, int high, List<int[]> group, int which) {
        List<Integer> lines = new ArrayList<>();
        for (int i = low; i <= high; i++) {
            for (int[] hunk : group) {
                if (hunk[0] == which && hunk[1] == i) {
                    lines.addAll(change.after.subList(hunk[3], hunk[4]));
                }
            }
            if (i < high && change.to[i] != NONE) {
                lines.add(change.before.get(i));
            }
        }
        return lines;
    }

    /** Each conflict as the places of its three marks. */
    private static List<int[]> conflictsOf(List<Integer> lines) {
        List<Integer> marks = new ArrayList<>();
        for (int i = 0; i < lines.size(); i++) {
            if (isMark(lines.get(i))) {
                marks.add(i);
            }
        }
        List<int[]> all = new ArrayList<>();
        for (int k = 0; k + 2 < marks.size(); k++) {
            if (lines.get(marks.get(k)) == 50001 && lines.get(marks.get(k + 1)) == 50002
                    && lines.get(marks.get(k + 2)) == 50003) {
                all.add(new int[] {marks.get(k), marks.get(k + 1), marks.get(k + 2)});
            }
        }
        return all;
    }

    int conflicts(int text) {
        return conflictsOf(text(text)).size();
    }

    int resolve(int text, int conflict, int side) {
        List<Integer> lines = text(text);
        List<int[]> all = conflictsOf(lines);
        index(conflict >= 0 && conflict < all.size());
        argument(side >= 1 && side <= 3);
        int[] marks = all.get(conflict);
        List<Integer> result = new ArrayList<>();
        for (int i = 0; i < lines.size(); i++) {
            boolean isOutside = i < marks[0] || i > marks[2];
            boolean isFirst = i > marks[0] && i < marks[1] && side != 2;
            boolean isSecond = i > marks[1] && i < marks[2] && side != 1;
            if (isOutside || isFirst || isSecond) {
                result.add(lines.get(i));
            }
        }
        texts.set(text, result);
        return result.size();
    }

    // ---- the stack

    private List<Integer> topText() {
        return stack.isEmpty() ? base : stack.get(stack.size() - 1).after;
    }

    int setBase(int text) {
        List<Integer> lines = text(text);
        state(stack.isEmpty());
        base = new ArrayList<>(lines);
        return base.size();
    }

    int push(int patch) {
        Change change = change(patch);
        state(stack.size() < 5 && change.before.equals(topText()));
        stack.add(change.twin());
        names.add(nextName);
        return nextName++;
    }

    int pop() {
        state(!stack.isEmpty());
        stack.remove(stack.size() - 1);
        return names.remove(names.size() - 1);
    }

    int take(int k) {
        index(k >= 0 && k < stack.size());
        return keepChange(stack.get(k));
    }

    int swap(int k) {
        index(k >= 0 && k < stack.size() - 1);
        state(!isNeeded(stack.get(k), stack.get(k + 1)));
        Change[] both = exchanged(stack.get(k), stack.get(k + 1));
        state(both[0].after.size() <= 16);
        stack.set(k, both[0]);
        stack.set(k + 1, both[1]);
        names.add(k, names.remove(k + 1));
        return names.get(k);
    }

    int fold(int k) {
        index(k >= 0 && k < stack.size() - 1);
        stack.set(k, joined(stack.get(k), stack.remove(k + 1)));
        names.remove(k + 1);
        return stack.size();
    }

    int edit(int k, int place, int line) {
        index(k >= 0 && k < stack.size());
        Change change = stack.get(k);
        index(place >= 0 && place < change.after.size());
        argument(isLine(line));
        state(change.from(place) == NONE);
        int before = change.after.set(place, line);
        int at = place;
        for (int above = k + 1; above < stack.size(); above++) {
            Change next = stack.get(above);
            next.before.set(at, line);
            at = next.to[at];
            if (at == NONE) {
                break;
            }
            next.after.set(at, line);
        }
        return before;
    }

    int refresh(int text, int way) {
        List<Integer> lines = text(text);
        way(way);
        state(!stack.isEmpty());
        Change change = made(stack.get(stack.size() - 1).before, lines, way);
        stack.set(stack.size() - 1, change);
        return change.hunks().size();
    }

    int height() {
        return stack.size();
    }

    int nameAt(int k) {
        index(k >= 0 && k < stack.size());
        return names.get(k);
    }

    int top(int place) {
        index(place >= 0);
        return place < topText().size() ? topText().get(place) : NONE;
    }

    int needs(int k) {
        index(k >= 0 && k < stack.size());
        List<Change> group = new ArrayList<>(List.of(stack.get(k)));
        int set = 0;
        for (int j = k - 1; j >= 0; j--) {
            List<Change> moved = new ArrayList<>();
            Change below = stack.get(j);
            for (Change member : group) {
                if (below == null || isNeeded(below, member)) {
                    below = null;
                    break;
                }
                Change[] both = exchanged(below, member);
                moved.add(both[0]);
                below = both[1];
            }
            if (below == null) {
                group.add(0, stack.get(j));
                set |= 1 << j;
            } else {
                group = moved;
            }
        }
        return set;
    }

    int orders() {
        state(stack.size() <= 4);
        Set<String> found = new HashSet<>();
        List<Integer> order = new ArrayList<>();
        for (int k = 0; k < stack.size(); k++) {
            order.add(k);
        }
        return search(new ArrayList<>(stack), order, found) ? found.size() : NONE;
    }

    private boolean search(List<Change> patches, List<Integer> order, Set<String> found) {
        if (!found.add(order.toString())) {
            return true;
        }
        if (!patches.isEmpty() && !patches.get(patches.size() - 1).after.equals(topText())) {
            return false;
        }
        for (int k = 0; k + 1 < patches.size(); k++) {
            if (!isNeeded(patches.get(k), patches.get(k + 1))) {
                Change[] both = exchanged(patches.get(k), patches.get(k + 1));
                List<Change> next = new ArrayList<>(patches);
                List<Integer> nextOrder = new ArrayList<>(order);
                next.set(k, both[0]);
                next.set(k + 1, both[1]);
                nextOrder.add(k, nextOrder.remove(k + 1));
                if (!search(next, nextOrder, found)) {
                    return false;
                }
            }
        }
        return true;
    }

    /** The place in the stack of the patch to blame (NONE for the base), and the place of the line there. */
    private int[] follow(int place) {
        int at = place;
        for (int k = stack.size() - 1; k >= 0; k--) {
            int down = source(stack.get(k), at);
            if (down == NONE) {
                return new int[] {k, at};
            }
            at = down;
        }
        return new int[] {NONE, at};
    }

    private static int source(Change change, int n) {
        if (change.from(n) != NONE) {
            return change.from(n);
        }
        for (int i = 0; i < change.before.size(); i++) {
            if (change.before.get(i).equals(change.after.get(n)) && goal(change, i) == n) {
                return i;
            }
        }
        int beside = NONE;
        for (int[] hunk : change.hunks()) {
            if (hunk[1] - hunk[0] != hunk[3] - hunk[2]) {
                return NONE;
            }
            for (int k = 0; k < hunk[1] - hunk[0]; k++) {
                if (!words(change.before.get(hunk[0] + k)).equals(words(change.after.get(hunk[2] + k)))) {
                    return NONE;
                }
                if (hunk[2] + k == n) {
                    beside = hunk[0] + k;
                }
            }
        }
        return beside;
    }

    int blame(int place) {
        index(place >= 0 && place < topText().size());
        int layer = follow(place)[0];
        return layer == NONE ? NONE : names.get(layer);
    }

    int began(int place) {
        index(place >= 0 && place < topText().size());
        return follow(place)[1];
    }

    // ---- trees

    boolean setFile(int tree, int name, int text) {
        index(tree >= 0 && tree <= 2 && name >= 0 && name <= 5 && text >= -1 && text <= 3);
        Map<Integer, List<Integer>> files = trees.get(tree);
        boolean wasThere = files.containsKey(name);
        if (text == NONE) {
            files.remove(name);
        } else {
            files.put(name, new ArrayList<>(texts.get(text)));
        }
        return wasThere;
    }

    private static int textLikeness(List<Integer> a, List<Integer> b) {
        int both = a.size() + b.size();
        return both == 0 ? 100 : 200 * mostPairs(a, b) / both;
    }

    int difference(int tree, int other) {
        index(tree >= 0 && tree <= 2 && other >= 0 && other <= 2);
        state(differences.size() < 10);
        Map<Integer, List<Integer>> first = new HashMap<>(trees.get(tree));
        Map<Integer, List<Integer>> second = new HashMap<>(trees.get(other));
        int[] went = new int[6];
        Arrays.fill(went, NONE);
        for (int name = 0; name < 6; name++) {
            if (first.containsKey(name) && second.containsKey(name)) {
                went[name] = name;
                first.remove(name);
                second.remove(name);
            }
        }
        for (int name = 0; name < 6; name++) {
            for (int goal = 0; goal < 6 && first.containsKey(name); goal++) {
                if (second.containsKey(goal) && first.get(name).equals(second.get(goal))) {
                    went[name] = goal;
                    first.remove(name);
                    second.remove(goal);
                }
            }
        }
        for (int wanted = 100; wanted >= 60; wanted--) {
            for (int name = 0; name < 6; name++) {
                for (int goal = 0; goal < 6; goal++) {
                    if (first.containsKey(name) && second.containsKey(goal)
                            && textLikeness(first.get(name), second.get(goal)) == wanted) {
                        went[name] = goal;
                        first.remove(name);
                        second.remove(goal);
                    }
                }
            }
        }
        differences.add(went);
        return differences.size() - 1;
    }

    int compose(int difference, int other) {
        index(difference >= 0 && difference < differences.size() && other >= 0 && other < differences.size());
        state(differences.size() < 10);
        int[] went = new int[6];
        for (int name = 0; name < 6; name++) {
            int between = differences.get(difference)[name];
            went[name] = between == NONE ? NONE : differences.get(other)[between];
        }
        differences.add(went);
        return differences.size() - 1;
    }

    int wentTo(int difference, int name) {
        index(difference >= 0 && difference < differences.size() && name >= 0 && name <= 5);
        return differences.get(difference)[name];
    }

    // ---- bytes: a step is {place, length} for a copy, or {-1, byte, byte, ..} for an add

    private List<Integer> row(int row) {
        index(row >= 0 && row <= 3);
        return rows.get(row);
    }

    private List<int[]> deltaAt(int delta) {
        index(delta >= 0 && delta < deltas.size());
        return deltas.get(delta);
    }

    int addByte(int row, int value) {
        List<Integer> bytes = row(row);
        argument(value >= 0 && value <= 255);
        state(bytes.size() < 40);
        bytes.add(value);
        return bytes.size();
    }

    int clear(int row) {
        List<Integer> bytes = row(row);
        int before = bytes.size();
        bytes.clear();
        return before;
    }

    int byteAt(int row, int place) {
        List<Integer> bytes = row(row);
        index(place >= 0);
        return place < bytes.size() ? bytes.get(place) : NONE;
    }

    private static void addOne(List<int[]> steps, int value) {
        int last = steps.size() - 1;
        if (last >= 0 && steps.get(last)[0] == NONE) {
            int[] longer = Arrays.copyOf(steps.get(last), steps.get(last).length + 1);
            longer[longer.length - 1] = value;
            steps.set(last, longer);
        } else {
            steps.add(new int[] {NONE, value});
        }
    }

    int delta(int row, int other) {
        List<Integer> from = row(row);
        List<Integer> to = row(other);
        state(deltas.size() < 10);
        List<int[]> steps = new ArrayList<>();
        for (int here = 0; here < to.size();) {
            int[] best = {0, 0};
            for (int length = 1; here + length <= to.size(); length++) {
                int place = java.util.Collections.indexOfSubList(from, to.subList(here, here + length));
                if (place >= 0) {
                    best = new int[] {place, length};
                }
            }
            if (best[1] >= 3) {
                steps.add(best);
                here += best[1];
            } else {
                addOne(steps, to.get(here));
                here++;
            }
        }
        deltas.add(steps);
        return deltas.size() - 1;
    }

    private static int wanted(List<int[]> steps) {
        int most = 0;
        for (int[] step : steps) {
            most = Math.max(most, step[0] == NONE ? 0 : step[0] + step[1]);
        }
        return most;
    }

    /** What the steps make of a row of anything; an added byte comes as the number itself and 1000. */
    private static List<Integer> apply(List<int[]> steps, List<Integer> row) {
        List<Integer> result = new ArrayList<>();
        for (int[] step : steps) {
            for (int k = 1; step[0] == NONE && k < step.length; k++) {
                result.add(1000 + step[k]);
            }
            for (int k = 0; step[0] != NONE && k < step[1]; k++) {
                result.add(row.get(step[0] + k));
            }
        }
        return result;
    }

    int chain(int delta, int other) {
        List<int[]> first = deltaAt(delta);
        List<int[]> second = deltaAt(other);
        List<Integer> places = new ArrayList<>();
        for (int i = 0; i < 40; i++) {
            places.add(i);
        }
        List<Integer> between = apply(first, places);
        state(wanted(second) <= between.size() && deltas.size() < 10);
        List<int[]> steps = new ArrayList<>();
        for (int code : apply(second, between)) {
            int[] last = steps.isEmpty() ? new int[] {NONE} : steps.get(steps.size() - 1);
            if (code >= 1000) {
                addOne(steps, code - 1000);
            } else if (last[0] != NONE && last[0] + last[1] == code) {
                last[1]++;
            } else {
                steps.add(new int[] {code, 1});
            }
        }
        deltas.add(steps);
        return deltas.size() - 1;
    }

    int sizeOf(int delta) {
        int size = 0;
        for (int[] step : deltaAt(delta)) {
            size += step[0] == NONE ? step.length : 3;
        }
        return size;
    }

    int step(int delta, int step) {
        List<int[]> steps = deltaAt(delta);
        index(step >= 0);
        if (step >= steps.size()) {
            return NONE;
        }
        int[] s = steps.get(step);
        return s[0] == NONE ? 1000 * (s.length - 1) + 500 + s[1] : 1000 * s[1] + s[0];
    }

    int putDelta(int delta, int row, int other) {
        List<int[]> steps = deltaAt(delta);
        List<Integer> from = row(row);
        row(other);
        state(wanted(steps) <= from.size());
        List<Integer> made = new ArrayList<>();
        for (int code : apply(steps, from)) {
            made.add(code % 1000);
        }
        rows.set(other, made);
        return made.size();
    }
}
