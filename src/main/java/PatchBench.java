/**
 * A workshop of differences: texts, patches, a stack of patches, trees of files and rows of bytes.
 * The face only checks its arguments and hands them on; each part of the work has a class of its own.
 */
public final class PatchBench {
    /** None; no line, patch, place or file. */
    public static final int NONE = -1;
    /** Ways to compare. */
    public static final int LEAST = 0, UNIQUE = 1, RARE = 2;

    private static final int MOST_TEXTS = 4;
    private static final int MOST_LINES = 16;
    private static final int MOST_PATCHES = 24;
    private static final int MOST_LAYERS = 5;
    private static final int MOST_FUZZ = 3;
    private static final int MOST_BYTES = 40;
    /** Patches that are only tried may pile up the lines that all patches of the stack add. */
    private static final int WIDE = MOST_LINES + MOST_LAYERS * MOST_LINES;

    private final Row[] texts;
    private final Row[] byteRows;
    private final Patch[] made;
    private int madeCount;
    private final Comparer comparer;
    private final Combiner combiner;
    private final Patch draft;
    private final Putter putter;
    private final Merger merger;
    private final Pile pile;
    private final Trials trials;
    private final Forest forest;
    private final Deltas deltas;

    public PatchBench() {
        texts = Row.several(MOST_TEXTS, MOST_LINES);
        byteRows = Row.several(MOST_TEXTS, MOST_BYTES);
        made = Patch.several(MOST_PATCHES, MOST_LINES);
        comparer = new Comparer();
        combiner = new Combiner();
        draft = new Patch(MOST_LINES);
        putter = new Putter();
        merger = new Merger();
        pile = new Pile();
        trials = new Trials(combiner);
        forest = new Forest(comparer);
        deltas = new Deltas();
    }

    // ---- texts

    public int put(int text, int place, int line)
            throws IndexOutOfBoundsException, IllegalArgumentException, IllegalStateException {
        Row lines = textOf(text);
        checkIndex(place, lines.size() + 1);
        checkLine(line);
        if (lines.size() >= MOST_LINES) {
            throw new IllegalStateException("the text is full");
        }
        lines.insert(place, line);
        return lines.size();
    }

    public int cut(int text, int place) throws IndexOutOfBoundsException {
        Row lines = textOf(text);
        checkIndex(place, lines.size());
        int line = lines.at(place);
        lines.remove(place);
        return line;
    }

    public int copy(int text, int other) throws IndexOutOfBoundsException {
        Row from = textOf(text);
        Row to = textOf(other);
        to.becomes(from);
        return to.size();
    }

    public int length(int text) throws IndexOutOfBoundsException {
        return textOf(text).size();
    }

    public int lineAt(int text, int place) throws IndexOutOfBoundsException {
        Row lines = textOf(text);
        checkIndex(place, lines.size());
        return lines.at(place);
    }

    public int likeness(int line, int other) throws IllegalArgumentException {
        checkLine(line);
        checkLine(other);
        return Lines.resemblance(line, other);
    }

    // ---- comparing

    public int pairOf(int text, int other, int way, int place)
            throws IndexOutOfBoundsException, IllegalArgumentException {
        Row first = textOf(text);
        Row second = textOf(other);
        checkIndex(place, first.size());
        checkWay(way);
        return comparer.match(first, second, way).at(place);
    }

    public int kept(int text, int other, int way) throws IndexOutOfBoundsException, IllegalArgumentException {
        Row first = textOf(text);
        Row second = textOf(other);
        checkWay(way);
        Row pairs = comparer.match(first, second, way);
        return pairs.size() - pairs.countOf(NONE, 0, pairs.size());
    }

    public int keptByTable(int text, int other) throws IndexOutOfBoundsException {
        Row first = textOf(text);
        Row second = textOf(other);
        return comparer.mostPairs(first, second);
    }

    // ---- patches

    public int make(int text, int other, int way)
            throws IndexOutOfBoundsException, IllegalArgumentException, IllegalStateException {
        Row first = textOf(text);
        Row second = textOf(other);
        checkWay(way);
        draft.build(first, second, comparer.match(first, second, way));
        draft.shiftHunks();
        return store(draft);
    }

    public int invert(int patch) throws IndexOutOfBoundsException, IllegalStateException {
        return store(combiner.turned(patchOf(patch)));
    }

    public int join(int patch, int other) throws IndexOutOfBoundsException, IllegalStateException {
        Patch first = patchOf(patch);
        Patch second = patchOf(other);
        checkFollows(first, second);
        return store(combiner.joined(first, second));
    }

    public boolean depends(int patch, int other) throws IndexOutOfBoundsException, IllegalStateException {
        Patch first = patchOf(patch);
        Patch second = patchOf(other);
        checkFollows(first, second);
        return combiner.doTouch(first, second);
    }

    public int past(int patch, int other, boolean isFirst) throws IndexOutOfBoundsException, IllegalStateException {
        Patch first = patchOf(patch);
        Patch second = patchOf(other);
        checkFollows(first, second);
        if (combiner.doTouch(first, second) || combiner.lengthBetween(first, second) > MOST_LINES) {
            throw new IllegalStateException("they can't be moved past each other");
        }
        combiner.movePast(first, second);
        return store(combiner.half(isFirst));
    }

    public int split(int patch, int hunk, int dropped, int added, boolean isFirst)
            throws IndexOutOfBoundsException, IllegalArgumentException, IllegalStateException {
        Patch whole = patchOf(patch);
        checkIndex(hunk, whole.hunkCount());
        checkRange(dropped, 0, whole.droppedBy(hunk));
        checkRange(added, 0, whole.addedBy(hunk));
        if (whole.before.size() - dropped + added > MOST_LINES) {
            throw new IllegalStateException("the text between the parts is too long");
        }
        combiner.cutApart(whole, hunk, dropped, added);
        return store(combiner.half(isFirst));
    }

    public int patches() {
        return madeCount;
    }

    public int lineIn(int patch, boolean isNew, int place) throws IndexOutOfBoundsException {
        Patch which = patchOf(patch);
        checkNotBelowZero(place);
        return isNew ? which.after.at(place) : which.before.at(place);
    }

    public int pairIn(int patch, int place) throws IndexOutOfBoundsException {
        Patch which = patchOf(patch);
        checkIndex(place, which.before.size());
        return which.forth.at(place);
    }

    public int hunks(int patch) throws IndexOutOfBoundsException {
        return patchOf(patch).hunkCount();
    }

    public int hunk(int patch, int hunk, int what) throws IndexOutOfBoundsException, IllegalArgumentException {
        Patch which = patchOf(patch);
        checkIndex(hunk, which.hunkCount());
        checkRange(what, 0, Patch.NUMBERS - 1);
        return which.part(hunk, what);
    }

    public int movedTo(int patch, int place) throws IndexOutOfBoundsException {
        Patch which = patchOf(patch);
        checkIndex(place, which.before.size());
        return which.destination(place);
    }

    public boolean areEqual(int patch, int other) throws IndexOutOfBoundsException {
        Patch first = patchOf(patch);
        Patch second = patchOf(other);
        return first.sameAs(second);
    }

    public int distance(int patch, int other) throws IndexOutOfBoundsException {
        Patch first = patchOf(patch);
        Patch second = patchOf(other);
        return comparer.changesApart(first, second);
    }

    // ---- putting and merging

    public int putOn(int patch, int text, int fuzz)
            throws IndexOutOfBoundsException, IllegalArgumentException, IllegalStateException {
        Patch which = patchOf(patch);
        Row lines = textOf(text);
        checkRange(fuzz, 0, MOST_FUZZ);
        if (!putter.changeText(which, lines, fuzz)) {
            throw new IllegalStateException("the text would be too long");
        }
        return putter.rejectedSet();
    }

    public int putAt(int hunk) throws IndexOutOfBoundsException {
        checkIndex(hunk, putter.answers.size());
        return putter.answers.at(hunk);
    }

    public int merge(int patch, int other, int text) throws IndexOutOfBoundsException, IllegalStateException {
        Patch first = patchOf(patch);
        Patch second = patchOf(other);
        Row lines = textOf(text);
        if (!first.before.sameAs(second.before)) {
            throw new IllegalStateException("the old texts are not the same");
        }
        int marked = merger.unite(first, second);
        if (merger.result.size() > MOST_LINES) {
            throw new IllegalStateException("the text would be too long");
        }
        lines.becomes(merger.result);
        return marked;
    }

    public int conflicts(int text) throws IndexOutOfBoundsException {
        return merger.conflictCount(textOf(text));
    }

    public int resolve(int text, int conflict, int side) throws IndexOutOfBoundsException, IllegalArgumentException {
        Row lines = textOf(text);
        checkIndex(conflict, merger.conflictCount(lines));
        checkRange(side, 1, Merger.BOTH_SIDES);
        merger.settleConflict(lines, conflict, side);
        return lines.size();
    }

    // ---- the stack

    public int setBase(int text) throws IndexOutOfBoundsException, IllegalStateException {
        Row lines = textOf(text);
        if (pile.count > 0) {
            throw new IllegalStateException("the stack has patches");
        }
        pile.base.becomes(lines);
        return lines.size();
    }

    public int push(int patch) throws IndexOutOfBoundsException, IllegalStateException {
        Patch which = patchOf(patch);
        if (pile.count >= MOST_LAYERS) {
            throw new IllegalStateException("the stack is full");
        }
        if (!which.before.sameAs(pile.text())) {
            throw new IllegalStateException("the patch has another old text");
        }
        return pile.layOn(which);
    }

    public int pop() throws IllegalStateException {
        checkHasLayer();
        return pile.takeOff();
    }

    public int take(int k) throws IndexOutOfBoundsException, IllegalStateException {
        return store(layerOf(k));
    }

    public int swap(int k) throws IndexOutOfBoundsException, IllegalStateException {
        checkIndex(k, pile.count - 1);
        if (!combiner.exchange(pile.layers, k, MOST_LINES)) {
            throw new IllegalStateException("they can't be moved past each other");
        }
        pile.names.exchangeWithNext(k);
        return pile.names.at(k);
    }

    public int fold(int k) throws IndexOutOfBoundsException {
        Patch lower = layerOf(k);
        Patch upper = layerOf(k + 1);
        lower.becomes(combiner.joined(lower, upper));
        pile.closeGap(k + 1);
        return pile.count;
    }

    public int edit(int k, int place, int line)
            throws IndexOutOfBoundsException, IllegalArgumentException, IllegalStateException {
        Patch which = layerOf(k);
        checkIndex(place, which.after.size());
        checkLine(line);
        if (which.back.at(place) != NONE) {
            throw new IllegalStateException("the line is paired");
        }
        int before = which.after.at(place);
        pile.rewrite(k, place, line);
        return before;
    }

    public int refresh(int text, int way)
            throws IndexOutOfBoundsException, IllegalArgumentException, IllegalStateException {
        Row lines = textOf(text);
        checkWay(way);
        checkHasLayer();
        Patch last = layerOf(pile.count - 1);
        last.build(last.before, lines, comparer.match(last.before, lines, way));
        last.shiftHunks();
        return last.hunkCount();
    }

    public int height() {
        return pile.count;
    }

    public int nameAt(int k) throws IndexOutOfBoundsException {
        checkIndex(k, pile.count);
        return pile.names.at(k);
    }

    public int top(int place) throws IndexOutOfBoundsException {
        checkNotBelowZero(place);
        return pile.text().at(place);
    }

    public int needs(int k) throws IndexOutOfBoundsException {
        checkIndex(k, pile.count);
        return trials.neededSet(pile, k);
    }

    public int orders() throws IllegalStateException {
        if (pile.count > Trials.MOST_ORDERED) {
            throw new IllegalStateException("the stack has too many patches");
        }
        return trials.countOrders(pile);
    }

    public int blame(int place) throws IndexOutOfBoundsException {
        checkIndex(place, pile.text().size());
        return pile.names.at(pile.originLayer(pile.origin(place)));
    }

    public int began(int place) throws IndexOutOfBoundsException {
        checkIndex(place, pile.text().size());
        return pile.originPlace(pile.origin(place));
    }

    // ---- trees

    public boolean setFile(int tree, int name, int text) throws IndexOutOfBoundsException {
        checkIndex(tree, Forest.MOST_TREES);
        checkIndex(name, Forest.MOST_NAMES);
        boolean wasThere = forest.has(tree, name);
        if (text == NONE) {
            forest.removeFile(tree, name);
        } else {
            forest.storeFile(tree, name, textOf(text));
        }
        return wasThere;
    }

    public int difference(int tree, int other) throws IndexOutOfBoundsException, IllegalStateException {
        checkIndex(tree, Forest.MOST_TREES);
        checkIndex(other, Forest.MOST_TREES);
        checkMoreDifferences();
        return forest.findDifference(tree, other);
    }

    public int compose(int difference, int other) throws IndexOutOfBoundsException, IllegalStateException {
        checkIndex(difference, forest.differenceCount());
        checkIndex(other, forest.differenceCount());
        checkMoreDifferences();
        return forest.goOn(difference, other);
    }

    public int wentTo(int difference, int name) throws IndexOutOfBoundsException {
        checkIndex(difference, forest.differenceCount());
        checkIndex(name, Forest.MOST_NAMES);
        return forest.goal(difference, name);
    }

    // ---- bytes

    public int addByte(int row, int value)
            throws IndexOutOfBoundsException, IllegalArgumentException, IllegalStateException {
        Row bytes = bytesOf(row);
        checkRange(value, 0, 255);
        if (bytes.size() >= MOST_BYTES) {
            throw new IllegalStateException("the row is full");
        }
        bytes.add(value);
        return bytes.size();
    }

    public int clear(int row) throws IndexOutOfBoundsException {
        Row bytes = bytesOf(row);
        int before = bytes.size();
        bytes.wipe();
        return before;
    }

    public int byteAt(int row, int place) throws IndexOutOfBoundsException {
        Row bytes = bytesOf(row);
        checkNotBelowZero(place);
        return bytes.at(place);
    }

    public int delta(int row, int other) throws IndexOutOfBoundsException, IllegalStateException {
        Row first = bytesOf(row);
        Row second = bytesOf(other);
        checkMoreDeltas();
        return deltas.find(first, second);
    }

    public int chain(int delta, int other) throws IndexOutOfBoundsException, IllegalStateException {
        Row first = deltaOf(delta);
        Row second = deltaOf(other);
        checkReach(second, first.size());
        checkMoreDeltas();
        return deltas.putThrough(first, second);
    }

    public int sizeOf(int delta) throws IndexOutOfBoundsException {
        return deltas.weight(deltaOf(delta));
    }

    public int step(int delta, int step) throws IndexOutOfBoundsException {
        Row codes = deltaOf(delta);
        checkNotBelowZero(step);
        return deltas.stepAt(codes, step);
    }

    public int putDelta(int delta, int row, int other) throws IndexOutOfBoundsException, IllegalStateException {
        Row codes = deltaOf(delta);
        Row from = bytesOf(row);
        Row to = bytesOf(other);
        checkReach(codes, from.size());
        deltas.makeBytes(codes, from, to);
        return to.size();
    }

    // ---- what the face checks

    private Row textOf(int text) {
        Row row = Row.among(texts, text);
        if (row == null) {
            throw new IndexOutOfBoundsException("no such text");
        }
        return row;
    }

    private Row bytesOf(int row) {
        Row bytes = Row.among(byteRows, row);
        if (bytes == null) {
            throw new IndexOutOfBoundsException("no such row");
        }
        return bytes;
    }

    private Row deltaOf(int delta) {
        Row codes = deltas.codesOf(delta);
        if (codes == null) {
            throw new IndexOutOfBoundsException("no such delta");
        }
        return codes;
    }

    private Patch patchOf(int patch) {
        Patch found = Patch.among(made, patch, madeCount);
        if (found == null) {
            throw new IndexOutOfBoundsException("no such patch");
        }
        return found;
    }

    private Patch layerOf(int k) {
        Patch found = Patch.among(pile.layers, k, pile.count);
        if (found == null) {
            throw new IndexOutOfBoundsException("no such patch of the stack");
        }
        return found;
    }

    private void checkIndex(int index, int count) {
        if (index < 0 || index >= count) {
            throw new IndexOutOfBoundsException("no such number or place");
        }
    }

    private void checkNotBelowZero(int place) {
        if (place < 0) {
            throw new IndexOutOfBoundsException("a place below 0");
        }
    }

    private void checkRange(int value, int least, int most) {
        if (value < least || value > most) {
            throw new IllegalArgumentException("out of range");
        }
    }

    private void checkLine(int line) {
        if (!Lines.isLine(line)) {
            throw new IllegalArgumentException("neither a line nor a mark");
        }
    }

    private void checkWay(int way) {
        if (way != LEAST && way != UNIQUE && way != RARE) {
            throw new IllegalArgumentException("no such way");
        }
    }

    private void checkFollows(Patch first, Patch second) {
        if (!second.before.sameAs(first.after)) {
            throw new IllegalStateException("the second patch has another old text");
        }
    }

    private void checkHasLayer() {
        if (pile.count < 1) {
            throw new IllegalStateException("the stack has no patch");
        }
    }

    private void checkMoreDifferences() {
        if (forest.differenceCount() >= Forest.MOST_DIFFERENCES) {
            throw new IllegalStateException("there are 10 differences");
        }
    }

    private void checkMoreDeltas() {
        if (deltas.count >= Deltas.MOST_DELTAS) {
            throw new IllegalStateException("there are 10 deltas");
        }
    }

    private void checkReach(Row codes, int size) {
        if (deltas.reach(codes) > size) {
            throw new IllegalStateException("there are too few bytes to copy");
        }
    }

    private int store(Patch patch) {
        if (madeCount >= MOST_PATCHES || madeCount >= made.length) {
            throw new IllegalStateException("there are 24 patches");
        }
        made[madeCount].becomes(patch);
        madeCount++;
        return madeCount - 1;
    }

    /**
     * A row of numbers with room for so many; it is made once and used again. It never has more numbers than room,
     * answers NONE outside, and lets no more in when it is full, so that no index is used untested.
     */
    private static final class Row {
        private final int[] values;
        private int size;

        Row(int room) {
            values = new int[Math.max(0, room)];
        }

        static Row[] several(int count, int room) {
            Row[] rows = new Row[Math.max(0, count)];
            for (int i = 0; i < rows.length; i++) {
                rows[i] = new Row(room);
            }
            return rows;
        }

        static Row among(Row[] rows, int i) {
            return i >= 0 && i < rows.length ? rows[i] : null;
        }

        int size() {
            return size;
        }

        int at(int i) {
            return i >= 0 && i < size ? values[i] : NONE;
        }

        void set(int i, int value) {
            if (i >= 0 && i < size) {
                values[i] = value;
            }
        }

        void add(int value) {
            if (size < values.length) {
                values[size] = value;
                size++;
            }
        }

        void insert(int place, int value) {
            if (place < 0 || place > size || size >= values.length) {
                return;
            }
            for (int i = size; i > place; i--) {
                values[i] = values[i - 1];
            }
            values[place] = value;
            size++;
        }

        void remove(int place) {
            if (place < 0 || place >= size) {
                return;
            }
            for (int i = place; i + 1 < size; i++) {
                values[i] = values[i + 1];
            }
            size--;
        }

        void wipe() {
            size = 0;
        }

        void fillWith(int count, int value) {
            size = Math.max(0, Math.min(count, values.length));
            for (int i = 0; i < size; i++) {
                values[i] = value;
            }
        }

        void addAll(Row from, int start, int end) {
            for (int i = Math.max(0, start); i < end && i < from.size; i++) {
                add(from.at(i));
            }
        }

        void becomes(Row other) {
            size = Math.min(other.size, values.length);
            for (int i = 0; i < size && i < other.values.length; i++) {
                values[i] = other.values[i];
            }
        }

        boolean sameAs(Row other) {
            if (size != other.size) {
                return false;
            }
            for (int i = 0; i < size; i++) {
                if (values[i] != other.values[i]) {
                    return false;
                }
            }
            return true;
        }

        int countOf(int value, int start, int end) {
            int count = 0;
            for (int i = Math.max(0, start); i < end && i < size; i++) {
                if (values[i] == value) {
                    count++;
                }
            }
            return count;
        }

        void exchangeWithNext(int i) {
            int value = at(i);
            if (i >= 0 && i + 1 < size) {
                values[i] = values[i + 1];
                values[i + 1] = value;
            }
        }

        /** The first place from there on that has another value, or the end. */
        int endOf(int value, int start) {
            int end = Math.max(0, start);
            while (end < size && values[end] == value) {
                end++;
            }
            return end;
        }

        int find(int value, int start) {
            for (int i = Math.max(0, start); i < size; i++) {
                if (values[i] == value) {
                    return i;
                }
            }
            return NONE;
        }
    }

    /** What the number of a line says. */
    private static final class Lines {
        static final int FIRST_MARK = 50001, SECOND_MARK = 50002, THIRD_MARK = 50003;
        private static final int PER_INDENT = 10000;
        private static final int MOST_INDENT = 3;
        private static final int MOST_WORDS = 4;

        private Lines() {
        }

        static boolean isMark(int line) {
            return line == FIRST_MARK || line == SECOND_MARK || line == THIRD_MARK;
        }

        static boolean isBlank(int line) {
            return line == 0;
        }

        static boolean isLine(int line) {
            if (isBlank(line) || isMark(line)) {
                return true;
            }
            if (line < 0 || line / PER_INDENT > MOST_INDENT) {
                return false;
            }
            int words = line % PER_INDENT;
            for (int i = 0; i < MOST_WORDS && words > 0; i++) {
                if (words % 10 == 0) {
                    return false;
                }
                words /= 10;
            }
            return line % PER_INDENT > 0;
        }

        static int indentOf(int line) {
            return isMark(line) ? 0 : line / PER_INDENT;
        }

        static int wordsOf(int line) {
            return isMark(line) ? line : line % PER_INDENT;
        }

        static int resemblance(int line, int other) {
            if (isMark(line) || isMark(other)) {
                return line == other ? 100 : 0;
            }
            int total = countWords(wordsOf(line)) + countWords(wordsOf(other));
            return total == 0 ? 100 : 200 * commonWords(wordsOf(line), wordsOf(other)) / total;
        }

        private static int countWords(int words) {
            int count = 0;
            int rest = words;
            for (int i = 0; i < MOST_WORDS && rest > 0; i++) {
                count++;
                rest /= 10;
            }
            return count;
        }

        /** One bit for each word of the first line; those that come out as 0 are the longest common row. */
        private static int commonWords(int words, int others) {
            int all = (1 << countWords(words)) - 1;
            int open = all;
            int rest = others;
            for (int i = 0; i < MOST_WORDS && rest > 0; i++) {
                int hits = open & placesOf(rest % 10, words);
                open = (open + hits) | (open - hits);
                rest /= 10;
            }
            return Integer.bitCount(all & ~open);
        }

        private static int placesOf(int word, int words) {
            int places = 0;
            int rest = words;
            for (int i = 0; i < MOST_WORDS && rest > 0; i++) {
                if (rest % 10 == word) {
                    places |= 1 << i;
                }
                rest /= 10;
            }
            return places;
        }
    }

    /** Two texts, the pairs of their lines both ways, and the hunks that the pairs leave. */
    private static final class Patch {
        static final int OLD_START = 0, DROPPED = 1, NEW_START = 2, ADDED = 3;
        static final int NUMBERS = 4;
        private static final int LEAST_MOVED = 2;
        private static final int LEAST_ALIKE = 50;
        private static final int MORE_THAN_INDENTS = 10;

        final Row before;
        final Row after;
        final Row forth;
        final Row back;
        private final Row pieces;
        /** For each old line, as bits, the new lines that can be beside it in a run. */
        private final Row kin;

        Patch(int room) {
            before = new Row(room);
            after = new Row(room);
            forth = new Row(room);
            back = new Row(room);
            pieces = new Row(NUMBERS * (room + 1));
            kin = new Row(room);
        }

        static Patch[] several(int count, int room) {
            Patch[] patches = new Patch[Math.max(0, count)];
            for (int i = 0; i < patches.length; i++) {
                patches[i] = new Patch(room);
            }
            return patches;
        }

        static Patch among(Patch[] patches, int i, int count) {
            return i >= 0 && i < count && i < patches.length ? patches[i] : null;
        }

        void begin() {
            before.wipe();
            after.wipe();
            forth.wipe();
            back.wipe();
        }

        void keep(int line) {
            forth.add(after.size());
            back.add(before.size());
            before.add(line);
            after.add(line);
        }

        void drop(int line) {
            forth.add(NONE);
            before.add(line);
        }

        void gain(int line) {
            back.add(NONE);
            after.add(line);
        }

        void finish() {
            pieces.wipe();
            int old = 0;
            int fresh = 0;
            while (old < before.size() || fresh < after.size()) {
                int oldEnd = forth.endOf(NONE, old);
                int newEnd = back.endOf(NONE, fresh);
                if (oldEnd > old || newEnd > fresh) {
                    pieces.add(old);
                    pieces.add(oldEnd - old);
                    pieces.add(fresh);
                    pieces.add(newEnd - fresh);
                }
                old = oldEnd + 1;
                fresh = newEnd + 1;
            }
        }

        void build(Row first, Row second, Row pairs) {
            before.becomes(first);
            after.becomes(second);
            forth.becomes(pairs);
            back.fillWith(second.size(), NONE);
            for (int i = 0; i < pairs.size(); i++) {
                back.set(pairs.at(i), i);
            }
            finish();
        }

        void becomes(Patch other) {
            before.becomes(other.before);
            after.becomes(other.after);
            forth.becomes(other.forth);
            back.becomes(other.back);
            pieces.becomes(other.pieces);
        }

        boolean sameAs(Patch other) {
            return before.sameAs(other.before) && after.sameAs(other.after) && forth.sameAs(other.forth);
        }

        int hunkCount() {
            return pieces.size() / NUMBERS;
        }

        int part(int hunk, int what) {
            return pieces.at(NUMBERS * hunk + what);
        }

        int oldStart(int hunk) {
            return pieces.at(NUMBERS * hunk + OLD_START);
        }

        int droppedBy(int hunk) {
            return pieces.at(NUMBERS * hunk + DROPPED);
        }

        int oldEnd(int hunk) {
            return pieces.at(NUMBERS * hunk + OLD_START) + pieces.at(NUMBERS * hunk + DROPPED);
        }

        int newStart(int hunk) {
            return pieces.at(NUMBERS * hunk + NEW_START);
        }

        int addedBy(int hunk) {
            return pieces.at(NUMBERS * hunk + ADDED);
        }

        int newEnd(int hunk) {
            return pieces.at(NUMBERS * hunk + NEW_START) + pieces.at(NUMBERS * hunk + ADDED);
        }

        /** How many paired lines there are ahead of a hunk, or behind the last one. */
        int gapAhead(int hunk) {
            int start = hunk < hunkCount() ? oldStart(hunk) : before.size();
            return hunk > 0 ? start - oldEnd(hunk - 1) : start;
        }

        /** By how much a line that is paired right ahead of a hunk lies further on in the new text. */
        int drift(int hunk) {
            return hunk > 0 ? newEnd(hunk - 1) - oldEnd(hunk - 1) : 0;
        }

        // ---- shifting hunks to where readers expect them

        void shiftHunks() {
            for (int hunk = 0; hunk < hunkCount(); hunk++) {
                if (droppedBy(hunk) == 0) {
                    shiftHunk(hunk, after, newStart(hunk), addedBy(hunk));
                } else if (addedBy(hunk) == 0) {
                    shiftHunk(hunk, before, oldStart(hunk), droppedBy(hunk));
                }
            }
            pairAround();
        }

        private void shiftHunk(int hunk, Row text, int start, int count) {
            int first = start - reachBack(hunk, text, start, count);
            int last = start + reachOn(hunk, text, start, count);
            int best = first;
            for (int place = first; place <= last; place++) {
                if (awkwardness(text, place) <= awkwardness(text, best)) {
                    best = place;
                }
            }
            pieces.set(NUMBERS * hunk + OLD_START, oldStart(hunk) + best - start);
            pieces.set(NUMBERS * hunk + NEW_START, newStart(hunk) + best - start);
        }

        private int reachBack(int hunk, Row text, int start, int count) {
            int most = hunk > 0 ? gapAhead(hunk) - 1 : gapAhead(hunk);
            int reach = 0;
            while (reach < most && text.at(start - reach - 1) == text.at(start - reach - 1 + count)) {
                reach++;
            }
            return reach;
        }

        private int reachOn(int hunk, Row text, int start, int count) {
            int gap = gapAhead(hunk + 1);
            int most = hunk + 1 < hunkCount() ? gap - 1 : gap;
            int reach = 0;
            while (reach < most && text.at(start + reach) == text.at(start + reach + count)) {
                reach++;
            }
            return reach;
        }

        private static int awkwardness(Row text, int place) {
            boolean isFree = place == 0 || Lines.isBlank(text.at(place - 1));
            int indent = Lines.indentOf(text.at(place));
            return isFree ? indent : indent + MORE_THAN_INDENTS;
        }

        private void pairAround() {
            forth.fillWith(before.size(), NONE);
            back.fillWith(after.size(), NONE);
            int old = 0;
            for (int hunk = 0; hunk <= hunkCount(); hunk++) {
                int end = hunk < hunkCount() ? oldStart(hunk) : before.size();
                for (int i = old; i < end; i++) {
                    forth.set(i, i + drift(hunk));
                    back.set(i + drift(hunk), i);
                }
                old = hunk < hunkCount() ? oldEnd(hunk) : end;
            }
        }

        // ---- lines that were moved, and where lines come from

        int destination(int place) {
            findKin();
            return goalOf(place);
        }

        private void findKin() {
            kin.fillWith(before.size(), 0);
            for (int i = 0; i < before.size(); i++) {
                for (int n = 0; n < after.size() && n < MOST_LINES; n++) {
                    boolean areFree = forth.at(i) == NONE && back.at(n) == NONE;
                    if (areFree && Lines.resemblance(before.at(i), after.at(n)) >= LEAST_ALIKE) {
                        kin.set(i, kin.at(i) | 1 << n);
                    }
                }
            }
        }

        private boolean canBeBeside(int i, int n) {
            boolean areThere = i >= 0 && i < kin.size() && n >= 0 && n < after.size() && n < MOST_LINES;
            return areThere && (kin.at(i) >> n & 1) == 1;
        }

        private int goalOf(int place) {
            int best = NONE;
            int bestAhead = 0;
            int bestLength = LEAST_MOVED - 1;
            for (int n = 0; n < after.size(); n++) {
                if (!canBeBeside(place, n)) {
                    continue;
                }
                int ahead = runAhead(place, n);
                int length = ahead + 1 + runBehind(place, n);
                if (length < bestLength || !hasSame(place - ahead, n - ahead, length)) {
                    continue;
                }
                boolean isEarlier = best != NONE && comesFirst(n - ahead, ahead, best - bestAhead, bestAhead);
                if (length > bestLength || isEarlier) {
                    best = n;
                    bestAhead = ahead;
                    bestLength = length;
                }
            }
            return best;
        }

        /** With more lines ahead of the same one the first dropped line lies lower. */
        private static boolean comesFirst(int firstAdded, int ahead, int bestAdded, int bestAhead) {
            return firstAdded < bestAdded || firstAdded == bestAdded && ahead > bestAhead;
        }

        private int runAhead(int i, int n) {
            int count = 0;
            while (count < i && canBeBeside(i - count - 1, n - count - 1)) {
                count++;
            }
            return count;
        }

        private int runBehind(int i, int n) {
            int count = 0;
            while (i + count < before.size() && canBeBeside(i + count + 1, n + count + 1)) {
                count++;
            }
            return count;
        }

        private boolean hasSame(int i, int n, int length) {
            for (int k = 0; k < length; k++) {
                if (before.at(i + k) == after.at(n + k)) {
                    return true;
                }
            }
            return false;
        }

        /** The old line that a new line was, or NONE if the patch is to blame for it. */
        int source(int n) {
            if (back.at(n) != NONE) {
                return back.at(n);
            }
            findKin();
            for (int i = 0; i < before.size(); i++) {
                if (before.at(i) == after.at(n) && goalOf(i) == n) {
                    return i;
                }
            }
            return onlyFormats() ? besides(n) : NONE;
        }

        private boolean onlyFormats() {
            for (int hunk = 0; hunk < hunkCount(); hunk++) {
                if (droppedBy(hunk) != addedBy(hunk) || !hasSameWords(hunk)) {
                    return false;
                }
            }
            return true;
        }

        private boolean hasSameWords(int hunk) {
            for (int k = 0; k < droppedBy(hunk); k++) {
                int old = before.at(oldStart(hunk) + k);
                int fresh = after.at(newStart(hunk) + k);
                if (Lines.wordsOf(old) != Lines.wordsOf(fresh)) {
                    return false;
                }
            }
            return true;
        }

        private int besides(int n) {
            for (int hunk = 0; hunk < hunkCount(); hunk++) {
                if (n >= newStart(hunk) && n < newEnd(hunk)) {
                    return oldStart(hunk) + n - newStart(hunk);
                }
            }
            return NONE;
        }
    }

    /** Pairs the lines of two texts, stretch by stretch. */
    private static final class Comparer {
        /** A row of changes has at most 33 numbers. */
        private static final int ROOM = 40;
        private static final int WIDTH = ROOM + 1;
        private static final int PER_STRETCH = 4;
        private static final int MOST_STRETCHES = 4 * ROOM;
        private static final int MOST_PLACES = 3;
        private static final int HUNK_CHANGE = 300000, DROP_CHANGE = 100000, ADD_CHANGE = 200000;

        private final Row first;
        private final Row second;
        private final Row pairs;
        private final Row partners;
        private final Row tails;
        private final Row stretches;
        private final Row changes;
        private final Row otherChanges;
        private final int[] table;

        Comparer() {
            first = new Row(ROOM);
            second = new Row(ROOM);
            pairs = new Row(ROOM);
            partners = new Row(ROOM);
            tails = new Row(ROOM);
            stretches = new Row(PER_STRETCH * MOST_STRETCHES);
            changes = new Row(ROOM);
            otherChanges = new Row(ROOM);
            table = new int[WIDTH * WIDTH];
        }

        /** For each place of the first text that of its partner; the row is good until the next call. */
        Row match(Row text, Row other, int way) {
            begin(text, other);
            addStretch(0, first.size(), 0, second.size());
            for (int i = 0; i < MOST_STRETCHES && PER_STRETCH * i < stretches.size(); i++) {
                int from = stretches.at(PER_STRETCH * i);
                int to = stretches.at(PER_STRETCH * i + 1);
                int start = stretches.at(PER_STRETCH * i + 2);
                int end = stretches.at(PER_STRETCH * i + 3);
                if (way == LEAST) {
                    pairMost(from, to, start, end);
                } else {
                    pairByEnds(from, to, start, end, way);
                }
            }
            return pairs;
        }

        int mostPairs(Row text, Row other) {
            begin(text, other);
            fillTable(0, first.size(), 0, second.size());
            return most(0, 0);
        }

        int changesApart(Patch patch, Patch other) {
            listChanges(patch, changes);
            listChanges(other, otherChanges);
            return changes.size() + otherChanges.size() - 2 * mostPairs(changes, otherChanges);
        }

        private static void listChanges(Patch patch, Row list) {
            list.wipe();
            for (int hunk = 0; hunk < patch.hunkCount(); hunk++) {
                list.add(HUNK_CHANGE);
                for (int i = patch.oldStart(hunk); i < patch.oldEnd(hunk); i++) {
                    list.add(DROP_CHANGE + patch.before.at(i));
                }
                for (int i = patch.newStart(hunk); i < patch.newEnd(hunk); i++) {
                    list.add(ADD_CHANGE + patch.after.at(i));
                }
            }
        }

        private void begin(Row text, Row other) {
            first.becomes(text);
            second.becomes(other);
            pairs.fillWith(first.size(), NONE);
            stretches.wipe();
        }

        private void addStretch(int from, int to, int start, int end) {
            if (from < to && start < end) {
                stretches.add(from);
                stretches.add(to);
                stretches.add(start);
                stretches.add(end);
            }
        }

        // ---- LEAST

        /** The table holds for two places how many pairs there can be from there on. */
        private void fillTable(int from, int to, int start, int end) {
            for (int i = to; i >= from; i--) {
                for (int j = end; j >= start; j--) {
                    int most = 0;
                    if (i < to && j < end) {
                        most = first.at(i) == second.at(j)
                                ? 1 + most(i + 1, j + 1) : Math.max(most(i + 1, j), most(i, j + 1));
                    }
                    setMost(i, j, most);
                }
            }
        }

        private int most(int i, int j) {
            int index = WIDTH * i + j;
            return index >= 0 && index < table.length ? table[index] : 0;
        }

        private void setMost(int i, int j, int value) {
            int index = WIDTH * i + j;
            if (index >= 0 && index < table.length) {
                table[index] = value;
            }
        }

        private void pairMost(int from, int to, int start, int end) {
            fillTable(from, to, start, end);
            int i = from;
            int j = start;
            while (i < to && j < end) {
                if (first.at(i) == second.at(j)) {
                    pairs.set(i, j);
                    i++;
                    j++;
                } else if (most(i + 1, j) == most(i, j)) {
                    i++;
                } else {
                    j++;
                }
            }
        }

        // ---- UNIQUE and RARE

        private void pairByEnds(int from, int to, int start, int end, int way) {
            int same = sameFrom(from, to, start, end);
            pairRow(from, start, same);
            int i = from + same;
            int j = start + same;
            int sameLast = sameUpTo(i, to, j, end);
            pairRow(to - sameLast, end - sameLast, sameLast);
            int iEnd = to - sameLast;
            int jEnd = end - sameLast;
            boolean isPaired = way == UNIQUE ? pairUnique(i, iEnd, j, jEnd) : pairRarest(i, iEnd, j, jEnd);
            if (!isPaired) {
                pairMost(i, iEnd, j, jEnd);
            }
        }

        private int sameFrom(int from, int to, int start, int end) {
            int most = Math.min(to - from, end - start);
            int count = 0;
            while (count < most && first.at(from + count) == second.at(start + count)) {
                count++;
            }
            return count;
        }

        private int sameUpTo(int from, int to, int start, int end) {
            int most = Math.min(to - from, end - start);
            int count = 0;
            while (count < most && first.at(to - count - 1) == second.at(end - count - 1)) {
                count++;
            }
            return count;
        }

        private void pairRow(int i, int j, int count) {
            for (int k = 0; k < count; k++) {
                pairs.set(i + k, j + k);
            }
        }

        private boolean pairUnique(int from, int to, int start, int end) {
            findPartners(from, to, start, end);
            int wanted = longestTail(from, to);
            if (wanted == 0) {
                return false;
            }
            int i = from;
            int j = start;
            for (int k = from; k < to && wanted > 0; k++) {
                if (tails.at(k) == wanted && partners.at(k) >= j) {
                    pairs.set(k, partners.at(k));
                    addStretch(i, k, j, partners.at(k));
                    i = k + 1;
                    j = partners.at(k) + 1;
                    wanted--;
                }
            }
            addStretch(i, to, j, end);
            return true;
        }

        /** The places in the second text of the lines that are there just once in each stretch. */
        private void findPartners(int from, int to, int start, int end) {
            partners.fillWith(first.size(), NONE);
            for (int i = from; i < to; i++) {
                int line = first.at(i);
                if (first.countOf(line, from, to) == 1 && second.countOf(line, start, end) == 1) {
                    partners.set(i, second.find(line, start));
                }
            }
        }

        /** A tail is how many of these lines can be paired at the most from that one on. */
        private int longestTail(int from, int to) {
            tails.fillWith(first.size(), 0);
            int longest = 0;
            for (int i = to - 1; i >= from; i--) {
                int tail = 0;
                for (int k = i + 1; k < to; k++) {
                    if (partners.at(k) > partners.at(i)) {
                        tail = Math.max(tail, tails.at(k));
                    }
                }
                if (partners.at(i) != NONE) {
                    tails.set(i, tail + 1);
                    longest = Math.max(longest, tail + 1);
                }
            }
            return longest;
        }

        private boolean pairRarest(int from, int to, int start, int end) {
            int rarest = rarestLine(from, to, start, end);
            if (rarest == NONE) {
                return false;
            }
            int partner = second.find(first.at(rarest), start);
            int ahead = sameUpTo(from, rarest, start, partner);
            int count = ahead + sameFrom(rarest, to, partner, end);
            int i = rarest - ahead;
            int j = partner - ahead;
            pairRow(i, j, count);
            addStretch(from, i, start, j);
            addStretch(i + count, to, j + count, end);
            return true;
        }

        private int rarestLine(int from, int to, int start, int end) {
            int rarest = NONE;
            int fewest = MOST_PLACES + 1;
            for (int i = from; i < to; i++) {
                int count = first.countOf(first.at(i), from, to);
                if (count < fewest && second.countOf(first.at(i), start, end) > 0) {
                    rarest = i;
                    fewest = count;
                }
            }
            return rarest;
        }
    }

    /** Makes patches of patches. What it makes is good until its next call. */
    private static final class Combiner {
        private final Patch lower;
        private final Patch upper;
        private final Row pairs;

        Combiner() {
            lower = new Patch(WIDE);
            upper = new Patch(WIDE);
            pairs = new Row(WIDE);
        }

        Patch half(boolean isFirst) {
            return isFirst ? lower : upper;
        }

        Patch turned(Patch patch) {
            lower.build(patch.after, patch.before, patch.back);
            return lower;
        }

        // ---- joining

        Patch joined(Patch first, Patch second) {
            pairs.wipe();
            for (int i = 0; i < first.before.size(); i++) {
                int between = first.forth.at(i);
                pairs.add(between == NONE ? NONE : second.forth.at(between));
            }
            lower.build(first.before, second.after, pairs);
            for (int hunk = 0; hunk < lower.hunkCount(); hunk++) {
                pairEnds(hunk);
            }
            lower.build(first.before, second.after, pairs);
            return lower;
        }

        private void pairEnds(int hunk) {
            int i = lower.oldStart(hunk);
            int j = lower.newStart(hunk);
            int iEnd = lower.oldEnd(hunk);
            int jEnd = lower.newEnd(hunk);
            while (i < iEnd && j < jEnd && lower.before.at(i) == lower.after.at(j)) {
                pairs.set(i, j);
                i++;
                j++;
            }
            while (i < iEnd && j < jEnd && lower.before.at(iEnd - 1) == lower.after.at(jEnd - 1)) {
                iEnd--;
                jEnd--;
                pairs.set(iEnd, jEnd);
            }
        }

        // ---- moving past each other

        boolean doTouch(Patch first, Patch second) {
            for (int h = 0; h < first.hunkCount(); h++) {
                for (int g = 0; g < second.hunkCount(); g++) {
                    if (first.newStart(h) <= second.oldEnd(g) && second.oldStart(g) <= first.newEnd(h)) {
                        return true;
                    }
                }
            }
            return false;
        }

        /** How long the text between two patches is when they have been moved past each other. */
        int lengthBetween(Patch first, Patch second) {
            return first.before.size() + second.after.size() - second.before.size();
        }

        /** Walks through the three texts of two patches that do not touch. */
        void movePast(Patch first, Patch second) {
            lower.begin();
            upper.begin();
            int steps = first.before.size() + first.after.size() + second.after.size();
            int i = 0;
            int m = 0;
            int n = 0;
            for (int k = 0; k < steps; k++) {
                if (isFree(first.forth, i)) {
                    lower.keep(first.before.at(i));
                    upper.drop(first.before.at(i));
                    i++;
                } else if (isFree(first.back, m)) {
                    upper.gain(first.after.at(m));
                    m++;
                    n++;
                } else if (isFree(second.forth, m)) {
                    lower.drop(second.before.at(m));
                    i++;
                    m++;
                } else if (isFree(second.back, n)) {
                    lower.gain(second.after.at(n));
                    upper.keep(second.after.at(n));
                    n++;
                } else if (m < first.after.size()) {
                    lower.keep(first.after.at(m));
                    upper.keep(first.after.at(m));
                    i++;
                    m++;
                    n++;
                }
            }
            lower.finish();
            upper.finish();
        }

        private static boolean isFree(Row partners, int place) {
            return place < partners.size() && partners.at(place) == NONE;
        }

        /** Brings two neighbours into the other order, if they can be moved past each other. */
        boolean exchange(Patch[] patches, int k, int mostLines) {
            Patch first = Patch.among(patches, k, patches.length);
            Patch second = Patch.among(patches, k + 1, patches.length);
            if (first == null || second == null) {
                return false;
            }
            if (doTouch(first, second) || lengthBetween(first, second) > mostLines) {
                return false;
            }
            movePast(first, second);
            first.becomes(lower);
            second.becomes(upper);
            return true;
        }

        // ---- splitting

        void cutApart(Patch whole, int cutHunk, int dropped, int added) {
            lower.begin();
            upper.begin();
            int old = 0;
            for (int hunk = 0; hunk < whole.hunkCount(); hunk++) {
                keepLines(whole, old, whole.oldStart(hunk));
                boolean isCut = hunk == cutHunk;
                cutOne(whole, hunk, isCut ? dropped : 0, isCut ? added : 0);
                old = whole.oldEnd(hunk);
            }
            keepLines(whole, old, whole.before.size());
            lower.finish();
            upper.finish();
        }

        private void keepLines(Patch whole, int start, int end) {
            for (int i = start; i < end; i++) {
                lower.keep(whole.before.at(i));
                upper.keep(whole.before.at(i));
            }
        }

        private void cutOne(Patch whole, int hunk, int dropped, int added) {
            int oldCut = whole.oldStart(hunk) + dropped;
            int newCut = whole.newStart(hunk) + added;
            for (int n = whole.newStart(hunk); n < newCut; n++) {
                lower.gain(whole.after.at(n));
                upper.keep(whole.after.at(n));
            }
            for (int i = whole.oldStart(hunk); i < oldCut; i++) {
                lower.drop(whole.before.at(i));
            }
            for (int i = oldCut; i < whole.oldEnd(hunk); i++) {
                lower.keep(whole.before.at(i));
                upper.drop(whole.before.at(i));
            }
            for (int n = newCut; n < whole.newEnd(hunk); n++) {
                upper.gain(whole.after.at(n));
            }
        }
    }

    /** Puts patches on texts that are not quite theirs. */
    private static final class Putter {
        private static final int MOST_CONTEXT = 3;
        private static final int PER_PLACE = 10;
        /** No hunk is expected farther than this from any place of a text. */
        private static final int FARTHEST = 4 * MOST_LINES;

        final Row answers;
        private final Row found;
        private final Row result;

        Putter() {
            answers = new Row(MOST_LINES + 1);
            found = new Row(MOST_LINES + 1);
            result = new Row(WIDE);
        }

        boolean changeText(Patch patch, Row text, int fuzz) {
            findPlaces(patch, text, fuzz);
            buildResult(patch, text);
            if (result.size() > MOST_LINES) {
                return false;
            }
            answers.becomes(found);
            text.becomes(result);
            return true;
        }

        int rejectedSet() {
            int set = 0;
            for (int hunk = 0; hunk < answers.size(); hunk++) {
                if (answers.at(hunk) == NONE) {
                    set |= 1 << hunk;
                }
            }
            return set;
        }

        private void findPlaces(Patch patch, Row text, int fuzz) {
            found.wipe();
            int shift = 0;
            int end = 0;
            for (int hunk = 0; hunk < patch.hunkCount(); hunk++) {
                int start = patch.oldStart(hunk);
                int answer = search(patch, hunk, text, fuzz, start + shift, end);
                found.add(answer);
                if (answer != NONE) {
                    int place = answer / PER_PLACE;
                    shift = place - start;
                    end = place + patch.droppedBy(hunk);
                }
            }
        }

        private static int search(Patch patch, int hunk, Row text, int fuzz, int expected, int lowest) {
            int ahead = Math.min(MOST_CONTEXT, patch.gapAhead(hunk));
            int behind = Math.min(MOST_CONTEXT, patch.gapAhead(hunk + 1));
            for (int lost = 0; lost <= fuzz; lost++) {
                int start = patch.oldStart(hunk) - Math.max(0, ahead - lost);
                int end = patch.oldEnd(hunk) + Math.max(0, behind - lost);
                int place = nearestFit(patch, hunk, text, start, end, expected, lowest);
                if (place != NONE) {
                    return PER_PLACE * place + lost;
                }
            }
            return NONE;
        }

        /** The place for the hunk at which its old lines from start to end stand in the text. */
        private static int nearestFit(
                Patch patch, int hunk, Row text, int start, int end, int expected, int lowest) {
            int own = patch.oldStart(hunk);
            for (int far = 0; far <= FARTHEST; far++) {
                int back = expected - far;
                int on = expected + far;
                if (back >= lowest && fits(patch.before, start, end, text, back - own)) {
                    return back;
                }
                if (on >= lowest && fits(patch.before, start, end, text, on - own)) {
                    return on;
                }
            }
            return NONE;
        }

        private static boolean fits(Row old, int start, int end, Row text, int shift) {
            if (start + shift < 0 || end + shift > text.size()) {
                return false;
            }
            for (int i = start; i < end; i++) {
                if (old.at(i) != text.at(i + shift)) {
                    return false;
                }
            }
            return true;
        }

        private void buildResult(Patch patch, Row text) {
            result.wipe();
            int at = 0;
            for (int hunk = 0; hunk < found.size(); hunk++) {
                if (found.at(hunk) != NONE) {
                    int place = found.at(hunk) / PER_PLACE;
                    result.addAll(text, at, place);
                    result.addAll(patch.after, patch.newStart(hunk), patch.newEnd(hunk));
                    at = place + patch.droppedBy(hunk);
                }
            }
            result.addAll(text, at, text.size());
        }
    }

    /** Merges patches into texts with conflicts, and resolves these. */
    private static final class Merger {
        static final int FIRST_SIDE = 1, SECOND_SIDE = 2, BOTH_SIDES = 3;
        /** Both sides of all groups, and three marks for each. */
        private static final int ROOM = 6 * MOST_LINES;
        /** Where a hunk behind the last one would begin: too far away for any group. */
        private static final int NOWHERE = 1000000;

        final Row result;
        /** The group at hand: its stretch of the old text, and the hunks of each patch in it. */
        private int low;
        private int high;
        private int from;
        private int to;
        private int otherFrom;
        private int otherTo;

        Merger() {
            result = new Row(ROOM);
        }

        /** Answers how many groups came with marks. */
        int unite(Patch patch, Patch other) {
            result.wipe();
            int marked = 0;
            to = 0;
            otherTo = 0;
            high = 0;
            int mostGroups = patch.hunkCount() + other.hunkCount();
            for (int i = 0; i < mostGroups && (to < patch.hunkCount() || otherTo < other.hunkCount()); i++) {
                int done = high;
                findGroup(patch, other);
                result.addAll(patch.before, done, low);
                if (addGroup(patch, other)) {
                    marked++;
                }
            }
            result.addAll(patch.before, high, patch.before.size());
            return marked;
        }

        private void findGroup(Patch patch, Patch other) {
            from = to;
            otherFrom = otherTo;
            low = Math.min(startOf(patch, from), startOf(other, otherFrom));
            high = low;
            int mostHunks = patch.hunkCount() + other.hunkCount();
            for (int i = 0; i < mostHunks; i++) {
                if (startOf(patch, to) <= high) {
                    high = Math.max(high, patch.oldEnd(to));
                    to++;
                } else if (startOf(other, otherTo) <= high) {
                    high = Math.max(high, other.oldEnd(otherTo));
                    otherTo++;
                }
            }
        }

        private static int startOf(Patch patch, int hunk) {
            return hunk < patch.hunkCount() ? patch.oldStart(hunk) : NOWHERE;
        }

        private boolean addGroup(Patch patch, Patch other) {
            if (otherFrom == otherTo || isSameHunk(patch, other)) {
                addSide(patch, from, to);
                return false;
            }
            if (from == to) {
                addSide(other, otherFrom, otherTo);
                return false;
            }
            result.add(Lines.FIRST_MARK);
            addSide(patch, from, to);
            result.add(Lines.SECOND_MARK);
            addSide(other, otherFrom, otherTo);
            result.add(Lines.THIRD_MARK);
            return true;
        }

        private void addSide(Patch patch, int first, int end) {
            result.addAll(patch.after, low + patch.drift(first), high + patch.drift(end));
        }

        private boolean isSameHunk(Patch patch, Patch other) {
            if (to - from != 1 || otherTo - otherFrom != 1) {
                return false;
            }
            if (patch.oldStart(from) != other.oldStart(otherFrom)
                    || patch.droppedBy(from) != other.droppedBy(otherFrom)
                    || patch.addedBy(from) != other.addedBy(otherFrom)) {
                return false;
            }
            for (int k = 0; k < patch.addedBy(from); k++) {
                if (patch.after.at(patch.newStart(from) + k) != other.after.at(other.newStart(otherFrom) + k)) {
                    return false;
                }
            }
            return true;
        }

        // ---- conflicts

        int conflictCount(Row text) {
            int count = 0;
            for (int i = 0; i < text.size(); i++) {
                if (isConflict(text, i)) {
                    count++;
                }
            }
            return count;
        }

        private static boolean isConflict(Row text, int place) {
            int second = nextMark(text, place);
            int third = nextMark(text, second);
            return text.at(place) == Lines.FIRST_MARK
                    && text.at(second) == Lines.SECOND_MARK && text.at(third) == Lines.THIRD_MARK;
        }

        private static int nextMark(Row text, int place) {
            int next = place + 1;
            while (next < text.size() && !Lines.isMark(text.at(next))) {
                next++;
            }
            return next;
        }

        void settleConflict(Row text, int conflict, int side) {
            int first = placeOfConflict(text, conflict);
            int second = nextMark(text, first);
            int third = nextMark(text, second);
            result.wipe();
            result.addAll(text, 0, first);
            if (side == FIRST_SIDE || side == BOTH_SIDES) {
                result.addAll(text, first + 1, second);
            }
            if (side == SECOND_SIDE || side == BOTH_SIDES) {
                result.addAll(text, second + 1, third);
            }
            result.addAll(text, third + 1, text.size());
            text.becomes(result);
        }

        private static int placeOfConflict(Row text, int conflict) {
            int left = conflict;
            for (int i = 0; i < text.size(); i++) {
                if (isConflict(text, i)) {
                    if (left == 0) {
                        return i;
                    }
                    left--;
                }
            }
            return text.size();
        }
    }

    /** The stack: a base and patches with names, each the copy of one that was pushed. */
    private static final class Pile {
        /** An origin is a place, and this for each text that lies below. */
        private static final int PER_LAYER = 100;

        final Row base;
        final Patch[] layers;
        final Row names;
        int count;
        private int nextName;

        Pile() {
            base = new Row(MOST_LINES);
            layers = Patch.several(MOST_LAYERS, MOST_LINES);
            names = new Row(MOST_LAYERS);
        }

        Row text() {
            return count > 0 && count <= layers.length ? layers[count - 1].after : base;
        }

        int layOn(Patch patch) {
            if (count < layers.length) {
                layers[count].becomes(patch);
                names.add(nextName);
                count++;
                nextName++;
            }
            return nextName - 1;
        }

        int takeOff() {
            int name = names.at(count - 1);
            closeGap(count - 1);
            return name;
        }

        /** Takes a patch and its name out; those above it come down by one. */
        void closeGap(int k) {
            if (k < 0 || k >= count) {
                return;
            }
            for (int i = k; i + 1 < count && i + 1 < layers.length; i++) {
                layers[i].becomes(layers[i + 1]);
            }
            names.remove(k);
            count--;
        }

        /** Changes a line of the new text of a patch, and in the patches above it as far as they keep it. */
        void rewrite(int k, int place, int line) {
            int at = place;
            for (int i = Math.max(0, k); i < count && i < layers.length && at != NONE; i++) {
                if (i > k) {
                    layers[i].before.set(at, line);
                    at = layers[i].forth.at(at);
                }
                layers[i].after.set(at, line);
            }
        }

        /** Follows a line of the text down to the patch that is to blame, or to the base. */
        int origin(int place) {
            int at = place;
            for (int k = Math.min(count, layers.length) - 1; k >= 0; k--) {
                int down = layers[k].source(at);
                if (down == NONE) {
                    return PER_LAYER * (k + 1) + at;
                }
                at = down;
            }
            return at;
        }

        /** The patch of an origin, NONE for the base. */
        int originLayer(int origin) {
            return origin / PER_LAYER - 1;
        }

        int originPlace(int origin) {
            return origin % PER_LAYER;
        }
    }

    /** Tries moves on copies of the stack's patches, so that the stack itself stays as it is. */
    private static final class Trials {
        static final int MOST_ORDERED = 4;
        /** So many orders of four patches there are. */
        private static final int MOST_ORDERS = 24;
        private static final int BITS = 3;
        private static final int PLACE_MASK = (1 << BITS) - 1;

        private final Combiner combiner;
        private final Patch[] group;
        private final Patch[] tried;
        /** The orders found: the code of each, the order that it came from, and the move from there. */
        private final Row codes;
        private final Row parents;
        private final Row moves;
        private final Row path;

        Trials(Combiner shared) {
            combiner = shared;
            group = Patch.several(MOST_LAYERS, WIDE);
            tried = Patch.several(MOST_LAYERS, WIDE);
            codes = new Row(MOST_ORDERS);
            parents = new Row(MOST_ORDERS);
            moves = new Row(MOST_ORDERS);
            path = new Row(MOST_ORDERS);
        }

        // ---- what a patch needs

        int neededSet(Pile pile, int k) {
            if (k < 0 || k >= pile.layers.length || k >= group.length) {
                return 0;
            }
            group[0].becomes(pile.layers[k]);
            int size = 1;
            int set = 0;
            for (int j = k - 1; j >= 0; j--) {
                if (!sinkGroup(pile.layers[j], size)) {
                    takeIn(pile.layers[j], size);
                    size++;
                    set |= 1 << j;
                }
            }
            return set;
        }

        /** Moves the patch below past the whole group; otherwise the group stays as it was. */
        private boolean sinkGroup(Patch below, int size) {
            tried[0].becomes(below);
            for (int g = 0; g < size && g + 1 < tried.length; g++) {
                tried[g + 1].becomes(group[g]);
                if (!combiner.exchange(tried, g, WIDE)) {
                    return false;
                }
            }
            for (int g = 0; g < size && g < group.length; g++) {
                group[g].becomes(tried[g]);
            }
            return true;
        }

        private void takeIn(Patch below, int size) {
            for (int g = Math.min(size, group.length - 1); g > 0; g--) {
                group[g].becomes(group[g - 1]);
            }
            group[0].becomes(below);
        }

        // ---- orders

        int countOrders(Pile pile) {
            codes.wipe();
            parents.wipe();
            moves.wipe();
            noteOrder(firstCode(pile.count), NONE, NONE);
            for (int i = 0; i < MOST_ORDERS && i < codes.size(); i++) {
                for (int k = 0; k + 1 < pile.count; k++) {
                    int code = exchangedCode(codes.at(i), k);
                    if (codes.find(code, 0) != NONE) {
                        continue;
                    }
                    replay(pile, i);
                    if (!combiner.exchange(tried, k, WIDE)) {
                        continue;
                    }
                    if (!hasTextOf(pile)) {
                        return NONE;
                    }
                    noteOrder(code, i, k);
                }
            }
            return codes.size();
        }

        /** A code has some bits for each place, the lowest ones for the lowest patch. */
        private static int firstCode(int count) {
            int code = 0;
            for (int k = 0; k < count; k++) {
                code |= k << BITS * k;
            }
            return code;
        }

        private static int exchangedCode(int code, int k) {
            int lower = code >> BITS * k;
            int upper = code >> BITS * (k + 1);
            int change = (lower ^ upper) & PLACE_MASK;
            return code ^ change << BITS * k ^ change << BITS * (k + 1);
        }

        private void noteOrder(int code, int parent, int move) {
            codes.add(code);
            parents.add(parent);
            moves.add(move);
        }

        private boolean hasTextOf(Pile pile) {
            Patch last = Patch.among(tried, pile.count - 1, pile.count);
            return last != null && last.after.sameAs(pile.text());
        }

        /** Brings the tried patches into an order that was found, by the moves that led there. */
        private void replay(Pile pile, int found) {
            for (int k = 0; k < pile.count && k < pile.layers.length && k < tried.length; k++) {
                tried[k].becomes(pile.layers[k]);
            }
            path.wipe();
            int at = found;
            for (int i = 0; i < MOST_ORDERS && at > 0; i++) {
                path.add(moves.at(at));
                at = parents.at(at);
            }
            for (int i = path.size() - 1; i >= 0; i--) {
                combiner.exchange(tried, path.at(i), WIDE);
            }
        }
    }

    /** Trees of files, and the names to which files went. */
    private static final class Forest {
        static final int MOST_TREES = 3;
        static final int MOST_NAMES = 6;
        static final int MOST_DIFFERENCES = 10;
        private static final int LEAST_ALIKE = 60;

        private final Comparer comparer;
        private final Row[] files;
        private final boolean[] areThere;
        private final Row goals;
        /** The goals of the difference at hand, and for each name of its second tree whether it is one. */
        private final Row went;
        private final boolean[] isTaken;

        Forest(Comparer shared) {
            comparer = shared;
            files = Row.several(MOST_TREES * MOST_NAMES, MOST_LINES);
            areThere = new boolean[MOST_TREES * MOST_NAMES];
            goals = new Row(MOST_DIFFERENCES * MOST_NAMES);
            went = new Row(MOST_NAMES);
            isTaken = new boolean[MOST_NAMES];
        }

        boolean has(int tree, int name) {
            int index = indexOf(tree, name);
            return index < areThere.length && areThere[index];
        }

        private static int indexOf(int tree, int name) {
            boolean isFile = tree >= 0 && tree < MOST_TREES && name >= 0 && name < MOST_NAMES;
            return isFile ? tree * MOST_NAMES + name : MOST_TREES * MOST_NAMES;
        }

        void removeFile(int tree, int name) {
            int index = indexOf(tree, name);
            if (index < areThere.length) {
                areThere[index] = false;
            }
        }

        void storeFile(int tree, int name, Row text) {
            int index = indexOf(tree, name);
            if (index < areThere.length && index < files.length) {
                areThere[index] = true;
                files[index].becomes(text);
            }
        }

        int differenceCount() {
            return goals.size() / MOST_NAMES;
        }

        int goal(int difference, int name) {
            return name >= 0 && name < MOST_NAMES ? goals.at(difference * MOST_NAMES + name) : NONE;
        }

        int findDifference(int tree, int other) {
            went.fillWith(MOST_NAMES, NONE);
            for (int name = 0; name < MOST_NAMES && name < isTaken.length; name++) {
                isTaken[name] = false;
            }
            pairNames(tree, other);
            pairTexts(tree, other);
            for (int i = 0; i < MOST_NAMES; i++) {
                pairMostAlike(tree, other);
            }
            return noteGoals();
        }

        int goOn(int difference, int other) {
            went.wipe();
            for (int name = 0; name < MOST_NAMES; name++) {
                went.add(goal(other, goal(difference, name)));
            }
            return noteGoals();
        }

        private int noteGoals() {
            goals.addAll(went, 0, went.size());
            return differenceCount() - 1;
        }

        private void pairFiles(int name, int goal) {
            if (goal >= 0 && goal < isTaken.length) {
                went.set(name, goal);
                isTaken[goal] = true;
            }
        }

        private void pairNames(int tree, int other) {
            for (int name = 0; name < MOST_NAMES; name++) {
                if (has(tree, name) && has(other, name)) {
                    pairFiles(name, name);
                }
            }
        }

        private void pairTexts(int tree, int other) {
            for (int name = 0; name < MOST_NAMES; name++) {
                for (int goal = 0; goal < MOST_NAMES; goal++) {
                    if (arePairable(tree, name, other, goal) && haveSameText(tree, name, other, goal)) {
                        pairFiles(name, goal);
                    }
                }
            }
        }

        private void pairMostAlike(int tree, int other) {
            int bestName = NONE;
            int bestGoal = NONE;
            int best = LEAST_ALIKE - 1;
            for (int name = 0; name < MOST_NAMES; name++) {
                for (int goal = 0; goal < MOST_NAMES; goal++) {
                    if (arePairable(tree, name, other, goal) && alike(tree, name, other, goal) > best) {
                        best = alike(tree, name, other, goal);
                        bestName = name;
                        bestGoal = goal;
                    }
                }
            }
            pairFiles(bestName, bestGoal);
        }

        private boolean arePairable(int tree, int name, int other, int goal) {
            boolean areFree = went.at(name) == NONE && goal < isTaken.length && !isTaken[goal];
            return areFree && has(tree, name) && has(other, goal);
        }

        private boolean haveSameText(int tree, int name, int other, int goal) {
            Row first = Row.among(files, indexOf(tree, name));
            Row second = Row.among(files, indexOf(other, goal));
            return first != null && second != null && first.sameAs(second);
        }

        private int alike(int tree, int name, int other, int goal) {
            Row first = Row.among(files, indexOf(tree, name));
            Row second = Row.among(files, indexOf(other, goal));
            if (first == null || second == null) {
                return 0;
            }
            int total = first.size() + second.size();
            return total == 0 ? 100 : 200 * comparer.mostPairs(first, second) / total;
        }
    }

    /** Deltas between rows of bytes: for each byte the place that it is copied from, or the byte itself. */
    private static final class Deltas {
        static final int MOST_DELTAS = 10;
        private static final int LEAST_COPIED = 3;
        private static final int COPY_SIZE = 3;
        private static final int ADD_CODE = 500;
        private static final int PER_BYTE = 1000;

        private final Row[] kept;
        int count;
        private final Row scratch;

        Deltas() {
            kept = Row.several(MOST_DELTAS, MOST_BYTES);
            scratch = new Row(MOST_BYTES);
        }

        Row codesOf(int delta) {
            return delta < count ? Row.among(kept, delta) : null;
        }

        int find(Row first, Row second) {
            scratch.wipe();
            int here = 0;
            while (here < second.size()) {
                int place = longestMatch(first, second, here);
                int length = matchLength(first, place, second, here);
                if (length >= LEAST_COPIED) {
                    addCopy(place, length);
                    here += length;
                } else {
                    scratch.add(ADD_CODE + second.at(here));
                    here++;
                }
            }
            return note();
        }

        private int note() {
            if (count < kept.length) {
                kept[count].becomes(scratch);
                count++;
            }
            return count - 1;
        }

        private void addCopy(int place, int length) {
            for (int k = 0; k < length; k++) {
                scratch.add(place + k);
            }
        }

        private static int longestMatch(Row first, Row second, int here) {
            int best = 0;
            int bestLength = 0;
            for (int place = 0; place < first.size(); place++) {
                int length = matchLength(first, place, second, here);
                if (length > bestLength) {
                    best = place;
                    bestLength = length;
                }
            }
            return best;
        }

        private static int matchLength(Row first, int place, Row second, int here) {
            int most = Math.min(first.size() - place, second.size() - here);
            int length = 0;
            while (length < most && first.at(place + length) == second.at(here + length)) {
                length++;
            }
            return length;
        }

        private static boolean isCopy(int code) {
            return code < ADD_CODE;
        }

        /** How many bytes a row must have for the copies. */
        int reach(Row codes) {
            int reach = 0;
            for (int i = 0; i < codes.size(); i++) {
                if (isCopy(codes.at(i))) {
                    reach = Math.max(reach, codes.at(i) + 1);
                }
            }
            return reach;
        }

        int putThrough(Row first, Row second) {
            scratch.wipe();
            for (int i = 0; i < second.size(); i++) {
                int code = second.at(i);
                scratch.add(isCopy(code) ? first.at(code) : code);
            }
            return note();
        }

        void makeBytes(Row codes, Row from, Row to) {
            scratch.wipe();
            for (int i = 0; i < codes.size(); i++) {
                int code = codes.at(i);
                scratch.add(isCopy(code) ? from.at(code) : code - ADD_CODE);
            }
            to.becomes(scratch);
        }

        private static int stepEnd(Row codes, int start) {
            int end = start + 1;
            while (end < codes.size() && belongTogether(codes.at(end - 1), codes.at(end))) {
                end++;
            }
            return end;
        }

        private static boolean belongTogether(int code, int next) {
            return isCopy(code) ? next == code + 1 : !isCopy(next);
        }

        int weight(Row codes) {
            int weight = 0;
            int start = 0;
            while (start < codes.size()) {
                int end = stepEnd(codes, start);
                weight += isCopy(codes.at(start)) ? COPY_SIZE : 1 + end - start;
                start = end;
            }
            return weight;
        }

        int stepAt(Row codes, int step) {
            int start = 0;
            int left = step;
            while (start < codes.size()) {
                int end = stepEnd(codes, start);
                if (left == 0) {
                    return PER_BYTE * (end - start) + codes.at(start);
                }
                left--;
                start = end;
            }
            return NONE;
        }
    }
}
