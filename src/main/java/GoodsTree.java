/**
 * A nomenclature as a text, read into a tree of rows; with notes, three editions and links between
 * them, and a search by words. Everything is held in arrays made once by the constructor.
 */
public final class GoodsTree {
    public static final int NONE = -1;

    private static final int EDITIONS = 3;
    private static final int MAX_SIGNS = 400;
    private static final int MAX_ROWS = 40;
    private static final int MAX_DASHES = 4;
    private static final int MAX_DIGITS = 10;
    private static final int MIN_DIGITS = 2;
    private static final int MAX_LETTERS = 8;
    private static final int MAX_ROW_WORDS = 4;
    private static final int MAX_ASKED_WORDS = 6;
    private static final int MAX_NOTES = 20;
    private static final int MAX_LINKS = 60;

    private static final int WRONG_SIGN = 1;
    private static final int TOO_MANY_DASHES = 2;
    private static final int WRONG_PARENT = 3;
    private static final int WRONG_ORDER = 4;
    private static final int TOO_MANY_ROWS = 5;

    private static final int INCLUDES = 0;
    private static final int LEAVES_OUT = 1;
    private static final int ANY = -1;

    private static final int POINTS_OWN = 4;
    private static final int POINTS_ABOVE = 2;

    private final TextReader reader = new TextReader();
    private final Tree[] trees = new Tree[EDITIONS];
    private final Pairs notes = new Pairs(MAX_NOTES);
    private final Pairs links = new Pairs(MAX_LINKS);
    private final Findings findings = new Findings();
    // Rows are read into this one first, so that a failed reading leaves the edition as it was.
    private Tree spare = new Tree();
    private int present = 0;

    public GoodsTree() {
        for (int e = 0; e < EDITIONS; e++) {
            trees[e] = new Tree();
        }
    }

    public boolean sign(int c) {
        return reader.take(c);
    }

    public int read() throws IllegalStateException {
        spare.clear();
        boolean right = reader.readRows(spare);
        reader.clear();
        if (!right) {
            throw new IllegalStateException("the text is no nomenclature");
        }
        Tree old = trees[present];
        trees[present] = spare;
        spare = old;
        notes.dropFrom(present);
        links.dropFrom(present);
        links.dropMarked(present);
        return trees[present].size();
    }

    public int failure(int which) {
        switch (which) {
            case 0:
                return reader.failureKind();
            case 1:
                return reader.failurePlace();
            default:
                return NONE;
        }
    }

    public boolean edition(int e) {
        if (!isEdition(e) || e == present) {
            return false;
        }
        present = e;
        return true;
    }

    public long row(int i, int what) throws IndexOutOfBoundsException {
        Tree tree = trees[present];
        if (!tree.has(i)) {
            throw new IndexOutOfBoundsException("no such row");
        }
        switch (what) {
            case 0:
                return tree.codeOf(i);
            case 1:
                return tree.dashesOf(i);
            case 2:
                return tree.wordsOf(i);
            case 3:
                return tree.codeOf(tree.parentOf(i));
            case 4:
                return tree.childrenOf(i);
            default:
                throw new IndexOutOfBoundsException("no such what");
        }
    }

    public int find(long code) {
        return trees[present].rowOf(code);
    }

    public int note(long code, int kind, long other)
            throws IllegalArgumentException, IllegalStateException {
        boolean known = hasCode(present, code) && hasCode(present, other);
        if (!known || code == other || (kind != INCLUDES && kind != LEAVES_OUT)) {
            throw new IllegalArgumentException("no such codes or kind for a note");
        }
        if (notes.isFull() || notes.holds(present, code, kind, other)) {
            throw new IllegalStateException("no room for the note, or it is there");
        }
        notes.add(present, code, kind, other);
        return notes.sizeFrom(present);
    }

    public int noted(long code, int i) throws IllegalArgumentException {
        if (!hasCode(present, code)) {
            throw new IllegalArgumentException("no code of the present edition");
        }
        int at = notes.nth(present, code, ANY, i);
        if (at == NONE) {
            return NONE;
        }
        return 2 * trees[present].rowOf(notes.otherAt(at)) + notes.markAt(at);
    }

    public boolean link(int from, long code, int to, long other) {
        if (from == to || !hasCode(from, code) || !hasCode(to, other)) {
            return false;
        }
        if (links.isFull() || links.holds(from, code, to, other)) {
            return false;
        }
        links.add(from, code, to, other);
        return true;
    }

    public int became(int from, long code, int to) throws IllegalArgumentException {
        checkEditions(from, to);
        checkCode(from, code);
        int many = 0;
        boolean shared = false;
        for (int at = 0; at < links.size(); at++) {
            if (links.matches(at, from, code, to)) {
                many++;
                shared = shared || links.sizeTo(from, to, links.otherAt(at)) > 1;
            }
        }
        if (many == 0) {
            return 0;
        }
        if (many == 1) {
            return shared ? 3 : 1;
        }
        return shared ? 4 : 2;
    }

    public long linked(int from, long code, int to, int i) throws IllegalArgumentException {
        checkEditions(from, to);
        checkCode(from, code);
        return links.otherAt(links.nth(from, code, to, i));
    }

    public int lost(int from, int to) throws IllegalArgumentException {
        checkEditions(from, to);
        Tree tree = trees[from];
        int without = 0;
        for (int i = 0; i < tree.size(); i++) {
            if (tree.childrenOf(i) == 0 && links.nth(from, tree.codeOf(i), to, 0) == NONE) {
                without++;
            }
        }
        return without;
    }

    public int search() throws IllegalStateException {
        boolean right = reader.readAsked();
        reader.clear();
        if (!right) {
            throw new IllegalStateException("the text is no words");
        }
        Tree tree = trees[present];
        findings.clear();
        for (int i = 0; i < tree.size(); i++) {
            findings.add(tree.codeOf(i), pointsOf(tree, i));
        }
        return findings.size();
    }

    public long found(int i, int what) throws IndexOutOfBoundsException {
        if (!findings.has(i) || (what != 0 && what != 1)) {
            throw new IndexOutOfBoundsException("no such row found, or no such what");
        }
        return what == 0 ? findings.codeOf(i) : findings.pointsAt(i);
    }

    public int count(int what) {
        switch (what) {
            case 0:
                return reader.length();
            case 1:
                return present;
            case 2:
                return notes.size();
            case 3:
                return links.size();
            case 4:
                return findings.size();
            default:
                return countInEdition(what);
        }
    }

    private int countInEdition(int what) {
        if (isEdition(what - 10)) {
            return trees[what - 10].size();
        }
        if (isEdition(what - 20)) {
            return trees[what - 20].chapters();
        }
        return NONE;
    }

    private static boolean isEdition(int e) {
        return e >= 0 && e < EDITIONS;
    }

    private boolean hasCode(int e, long code) {
        return isEdition(e) && trees[e].rowOf(code) != NONE;
    }

    private static void checkEditions(int from, int to) {
        if (!isEdition(from) || !isEdition(to) || from == to) {
            throw new IllegalArgumentException("no two editions");
        }
    }

    private void checkCode(int e, long code) {
        if (!hasCode(e, code)) {
            throw new IllegalArgumentException("no code of the edition");
        }
    }

    private int pointsOf(Tree tree, int row) {
        int points = 0;
        for (int k = 0; k < reader.wordCount(); k++) {
            points += tree.pointsFor(row, reader.wordAt(k));
        }
        return isLeftOut(tree, row) ? points / 2 : points;
    }

    private boolean isLeftOut(Tree tree, int row) {
        int above = tree.parentOf(row);
        for (int step = 0; step < MAX_DASHES && above != NONE; step++) {
            if (notes.holds(present, tree.codeOf(above), LEAVES_OUT, tree.codeOf(row))) {
                return true;
            }
            above = tree.parentOf(above);
        }
        return false;
    }

    /** What is said of codes as told, a 1 ahead of their digits. */
    private static final class Codes {
        private static final long LONGEST = 10_000_000_000L;
        private static final long BEYOND_CHAPTER = 200L;

        static boolean isChapter(long code) {
            return code < BEYOND_CHAPTER;
        }

        /** The 1 ahead makes a longer code the greater number, so digits go until it is no longer greater. */
        static boolean beginsWith(long code, long start) {
            long head = code;
            for (int i = 0; i < MAX_DIGITS && head > start; i++) {
                head /= 10;
            }
            return head == start;
        }

        static boolean comesBehind(long code, long ahead) {
            long filled = fill(code);
            long filledAhead = fill(ahead);
            return filled == filledAhead ? code > ahead : filled > filledAhead;
        }

        private static long fill(long code) {
            long filled = code;
            for (int i = 0; i < MAX_DIGITS && filled < LONGEST; i++) {
                filled *= 10;
            }
            return filled;
        }
    }

    /** The rows of one edition, in the order of the text. */
    private static final class Tree {
        private final long[] codes = new long[MAX_ROWS];
        private final int[] dashes = new int[MAX_ROWS];
        private final int[] parents = new int[MAX_ROWS];
        private final int[] children = new int[MAX_ROWS];
        private final int[] wordCounts = new int[MAX_ROWS];
        private final long[] words = new long[MAX_ROWS * MAX_ROW_WORDS];
        private int size = 0;
        private int chapters = 0;

        void clear() {
            size = 0;
            chapters = 0;
        }

        int size() {
            return size;
        }

        int chapters() {
            return chapters;
        }

        boolean isFull() {
            return size >= MAX_ROWS;
        }

        boolean has(int row) {
            return row >= 0 && row < size && row < MAX_ROWS;
        }

        long codeOf(int row) {
            return has(row) ? codes[row] : 0;
        }

        int dashesOf(int row) {
            return has(row) ? dashes[row] : NONE;
        }

        int parentOf(int row) {
            return has(row) ? parents[row] : NONE;
        }

        int childrenOf(int row) {
            return has(row) ? children[row] : 0;
        }

        int wordsOf(int row) {
            return has(row) ? wordCounts[row] : 0;
        }

        int rowOf(long code) {
            for (int i = 0; i < size; i++) {
                if (codes[i] == code) {
                    return i;
                }
            }
            return NONE;
        }

        /** How many dashes the next row may have: none for the first, as no row has NONE and one. */
        int mostDashes() {
            return dashesOf(size - 1) + 1;
        }

        /** The row which a next one with so many dashes is below. */
        int parentFor(int manyDashes) {
            for (int i = size - 1; i >= 0; i--) {
                if (dashes[i] == manyDashes - 1) {
                    return i;
                }
            }
            return NONE;
        }

        /** Whether a next code stands rightly below that row, or rightly as a chapter. */
        boolean fitsBelow(int parent, long code) {
            if (!has(parent)) {
                return Codes.isChapter(code);
            }
            return code != codes[parent] && Codes.beginsWith(code, codes[parent]);
        }

        boolean comesBehindLast(long code) {
            return size == 0 || Codes.comesBehind(code, codeOf(size - 1));
        }

        void add(long code, int manyDashes, TextReader from) {
            if (isFull()) {
                return;
            }
            int parent = parentFor(manyDashes);
            codes[size] = code;
            dashes[size] = manyDashes;
            parents[size] = parent;
            children[size] = 0;
            wordCounts[size] = Math.min(from.wordCount(), MAX_ROW_WORDS);
            for (int k = 0; k < wordCounts[size]; k++) {
                words[size * MAX_ROW_WORDS + k] = from.wordAt(k);
            }
            if (has(parent)) {
                children[parent]++;
            } else {
                chapters++;
            }
            size++;
        }

        int pointsFor(int row, long word) {
            if (hasWord(row, word)) {
                return POINTS_OWN;
            }
            int above = parentOf(row);
            for (int step = 0; step < MAX_DASHES && above != NONE; step++) {
                if (hasWord(above, word)) {
                    return POINTS_ABOVE;
                }
                above = parentOf(above);
            }
            return 0;
        }

        private boolean hasWord(int row, long word) {
            for (int k = 0; k < wordsOf(row); k++) {
                if (words[row * MAX_ROW_WORDS + k] == word) {
                    return true;
                }
            }
            return false;
        }
    }

    /** The text, and how it is read: as rows or as words that are asked, up to the first failure. */
    private static final class TextReader {
        private static final char END = 0;

        private final char[] signs = new char[MAX_SIGNS];
        // The words read latest, each as one number, so that equal words are equal numbers.
        private final long[] words = new long[MAX_ASKED_WORDS];
        private int wordCount = 0;
        private int length = 0;
        private int place = 0;
        private int failureKind = 0;
        private int failurePlace = NONE;

        int length() {
            return length;
        }

        int failureKind() {
            return failureKind;
        }

        int failurePlace() {
            return failurePlace;
        }

        int wordCount() {
            return wordCount;
        }

        long wordAt(int k) {
            return k >= 0 && k < wordCount && k < words.length ? words[k] : 0;
        }

        void clear() {
            length = 0;
        }

        boolean take(int c) {
            int small = c >= 'A' && c <= 'Z' ? c - 'A' + 'a' : c;
            if (!isSign(small) || length >= signs.length) {
                return false;
            }
            signs[length] = (char) small;
            length++;
            return true;
        }

        boolean readRows(Tree tree) {
            start();
            if (length == 0) {
                return fail(WRONG_SIGN, 0);
            }
            for (int i = 0; i <= MAX_ROWS && place < length; i++) {
                if (!readRow(tree)) {
                    return false;
                }
            }
            return true;
        }

        boolean readAsked() {
            start();
            return readWords(MAX_ASKED_WORDS) && (place == length || fail(WRONG_SIGN, place));
        }

        private void start() {
            place = 0;
            failureKind = 0;
            failurePlace = NONE;
        }

        private boolean fail(int kind, int at) {
            failureKind = kind;
            failurePlace = at;
            return false;
        }

        /** The checks stand in the order of their places, and at one place as the document ranks them. */
        private boolean readRow(Tree tree) {
            int first = place;
            if (here() != '-' && !isDigit(here())) {
                return fail(WRONG_SIGN, first);
            }
            int dashes = countDashes();
            if (dashes > tree.mostDashes()) {
                return fail(TOO_MANY_DASHES, first);
            }
            if (tree.isFull()) {
                return fail(TOO_MANY_ROWS, first);
            }
            if (dashes > MAX_DASHES) {
                return fail(WRONG_SIGN, first + MAX_DASHES);
            }
            place = first + dashes;
            return readCodeAndWords(tree, dashes);
        }

        private boolean readCodeAndWords(Tree tree, int dashes) {
            int first = place;
            long code = readCode();
            if (code == 0) {
                return fail(WRONG_SIGN, place);
            }
            if (!tree.fitsBelow(tree.parentFor(dashes), code)) {
                return fail(WRONG_PARENT, first);
            }
            if (!tree.comesBehindLast(code)) {
                return fail(WRONG_ORDER, first);
            }
            if (!readWords(MAX_ROW_WORDS)) {
                return false;
            }
            if (here() != ';') {
                return fail(WRONG_SIGN, place);
            }
            place++;
            tree.add(code, dashes, this);
            return true;
        }

        private int countDashes() {
            int dashes = 0;
            for (int i = place; i < length && signs[i] == '-'; i++) {
                dashes++;
            }
            return dashes;
        }

        /** The code as told; 0 if the sign at the place where it stops makes it none. */
        private long readCode() {
            long code = 1;
            int digits = 0;
            while (digits < MAX_DIGITS && isDigit(here())) {
                code = code * 10 + (here() - '0');
                digits++;
                place++;
            }
            boolean right = digits >= MIN_DIGITS && digits % 2 == 0 && !isDigit(here());
            return right ? code : 0;
        }

        /** Words up to the first sign that goes on with none of them; the caller looks at that sign. */
        private boolean readWords(int most) {
            wordCount = 0;
            for (int k = 0; k < most && k < words.length; k++) {
                long word = readWord();
                if (word == 0) {
                    return fail(WRONG_SIGN, place);
                }
                words[k] = word;
                wordCount = k + 1;
                if (here() != '.' || wordCount == most) {
                    return true;
                }
                place++;
            }
            return true;
        }

        /** A word as a number, a letter to each five bits; 0 if there is no letter here. */
        private long readWord() {
            long word = 0;
            for (int letters = 0; letters < MAX_LETTERS && isLetter(here()); letters++) {
                word = word * 32 + (here() - 'a' + 1);
                place++;
            }
            return word;
        }

        private char here() {
            return place >= 0 && place < length && place < signs.length ? signs[place] : END;
        }

        private static boolean isSign(int c) {
            return c == '-' || c == '.' || c == ';' || isDigit(c) || isLetter(c);
        }

        private static boolean isDigit(int c) {
            return c >= '0' && c <= '9';
        }

        private static boolean isLetter(int c) {
            return c >= 'a' && c <= 'z';
        }
    }

    /**
     * Pairs of codes in the order in which they were told. Of a note: its edition, its code, its
     * kind as the mark, the other code; of a link: from, its code, to as the mark, the other code.
     */
    private static final class Pairs {
        private final int[] editions;
        private final long[] codes;
        private final int[] marks;
        private final long[] others;
        private int size = 0;

        Pairs(int limit) {
            int room = Math.max(limit, 0);
            editions = new int[room];
            codes = new long[room];
            marks = new int[room];
            others = new long[room];
        }

        int size() {
            return size;
        }

        boolean isFull() {
            return size >= codes.length;
        }

        boolean holds(int edition, long code, int mark, long other) {
            for (int at = 0; at < size; at++) {
                if (others[at] == other && matches(at, edition, code, mark)) {
                    return true;
                }
            }
            return false;
        }

        void add(int edition, long code, int mark, long other) {
            if (isFull()) {
                return;
            }
            editions[size] = edition;
            codes[size] = code;
            marks[size] = mark;
            others[size] = other;
            size++;
        }

        boolean matches(int at, int edition, long code, int mark) {
            return has(at) && editions[at] == edition && codes[at] == code
                    && (mark == ANY || marks[at] == mark);
        }

        /** Where the i-th pair of a code stands; NONE without. */
        int nth(int edition, long code, int mark, int i) {
            int ahead = 0;
            for (int at = 0; at < size; at++) {
                if (matches(at, edition, code, mark)) {
                    if (ahead == i) {
                        return at;
                    }
                    ahead++;
                }
            }
            return NONE;
        }

        int markAt(int at) {
            return has(at) ? marks[at] : NONE;
        }

        long otherAt(int at) {
            return has(at) ? others[at] : 0;
        }

        int sizeFrom(int edition) {
            int many = 0;
            for (int at = 0; at < size; at++) {
                if (editions[at] == edition) {
                    many++;
                }
            }
            return many;
        }

        int sizeTo(int edition, int mark, long other) {
            int many = 0;
            for (int at = 0; at < size; at++) {
                if (editions[at] == edition && marks[at] == mark && others[at] == other) {
                    many++;
                }
            }
            return many;
        }

        void dropFrom(int edition) {
            for (int at = size - 1; at >= 0; at--) {
                if (editions[at] == edition) {
                    drop(at);
                }
            }
        }

        void dropMarked(int mark) {
            for (int at = size - 1; at >= 0; at--) {
                if (marks[at] == mark) {
                    drop(at);
                }
            }
        }

        private void drop(int gone) {
            for (int at = gone; at >= 0 && at < size - 1; at++) {
                editions[at] = editions[at + 1];
                codes[at] = codes[at + 1];
                marks[at] = marks[at + 1];
                others[at] = others[at + 1];
            }
            size--;
        }

        private boolean has(int at) {
            return at >= 0 && at < size && at < codes.length;
        }
    }

    /** What the latest search found; codes and points are kept, as the edition may be read anew. */
    private static final class Findings {
        private final long[] codes = new long[MAX_ROWS];
        private final int[] points = new int[MAX_ROWS];
        private int size = 0;

        void clear() {
            size = 0;
        }

        int size() {
            return size;
        }

        boolean has(int i) {
            return i >= 0 && i < size && i < MAX_ROWS;
        }

        long codeOf(int i) {
            return has(i) ? codes[i] : 0;
        }

        int pointsAt(int i) {
            return has(i) ? points[i] : 0;
        }

        /** Rows come in their order, so one goes behind all that have as many points. */
        void add(long code, int got) {
            if (got <= 0 || size >= MAX_ROWS) {
                return;
            }
            int at = size;
            while (at > 0 && points[at - 1] < got) {
                codes[at] = codes[at - 1];
                points[at] = points[at - 1];
                at--;
            }
            codes[at] = code;
            points[at] = got;
            size++;
        }
    }
}
