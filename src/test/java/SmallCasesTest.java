import java.util.List;
import java.util.function.Consumer;
import java.util.function.LongSupplier;

/** Small cases, every one of a kind, on the class and on the model: all answers must be the same. */
public final class SmallCasesTest {
    private static final String ROW_SIGNS = "-01a.;";
    private static final String ASKED_SIGNS = "ab.;-1";
    private static final int TAIL = 4;
    private static final String DEEPEST = "01a;-0101a;--010101a;---01010101a;----0101010101a;";
    private static final List<String> BEGUN_ROWS = List.of(
            "", "0", "00a;", "01a;-0101a;", "01a;-0101a;--010101a;", "01a;-0101a;--010101a;---01010101a;",
            DEEPEST, DEEPEST + "----", "01a;-01010101", "01aaaaaa", "01a.a.a", "00a;-0000a;--0000",
            chapters(39), chapters(39) + "90a;", chapters(39) + "90a;-", chapters(39) + "90a;-90");
    private static final List<String> BEGUN_WORDS = List.of("", "abababa", "a.b.a.b", "a.b.a.b.a");

    private final GoodsTree tree = new GoodsTree();
    private final Model model = new Model();
    private final String about;

    private SmallCasesTest(String about) {
        this.about = about;
    }

    public static void main(String[] args) {
        for (String begun : BEGUN_ROWS) {
            eachText(begun, ROW_SIGNS, TAIL, SmallCasesTest::sameReading);
        }
        for (String begun : BEGUN_WORDS) {
            eachText(begun, ASKED_SIGNS, TAIL, SmallCasesTest::sameSearching);
        }
        for (int set = 0; set < 1 << 9; set++) {
            sameLinks(set);
        }
        for (int set = 0; set < 1 << 12; set++) {
            sameNotes(set);
        }
        Check.end();
    }

    private static String chapters(int many) {
        StringBuilder text = new StringBuilder();
        for (int i = 0; i < many; i++) {
            text.append(String.format("%02da;", i));
        }
        return text.toString();
    }

    /** The text itself, and each that goes on with so many of the signs at most. */
    private static void eachText(String text, String signs, int more, Consumer<String> test) {
        test.accept(text);
        for (int k = 0; more > 0 && k < signs.length(); k++) {
            eachText(text + signs.charAt(k), signs, more - 1, test);
        }
    }

    private static void sameReading(String text) {
        SmallCasesTest both = new SmallCasesTest("read " + text);
        both.type(text);
        both.same("read", both.model::read, both.tree::read);
        both.sameFailure();
        both.same("rows", () -> both.model.count(10), () -> both.tree.count(10));
        int last = both.model.count(10) - 1;
        for (int what = 0; what < 5; what++) {
            int w = what;
            both.same("row " + w, () -> both.model.row(last, w), () -> both.tree.row(last, w));
        }
    }

    private static void sameSearching(String text) {
        SmallCasesTest both = new SmallCasesTest("search " + text);
        both.rows("01a.b;-0101b;--010101ab;02ba.a;");
        both.type(text);
        both.sameSearch();
    }

    /** Each set of links from three codes to three. */
    private static void sameLinks(int set) {
        SmallCasesTest both = new SmallCasesTest("links " + set);
        long[] codes = {101, 102, 10201};
        long[] others = {101, 10101, 103};
        both.rows("01a;02b;-0201c;");
        both.edition(1);
        both.rows("01a;-0101c;03b;");
        for (int k = 0; k < 9; k++) {
            if ((set >> k & 1) == 1) {
                both.link(0, codes[k / 3], 1, others[k % 3]);
            }
        }
        for (int k = 0; k < 3; k++) {
            both.sameLinked(0, codes[k], 1);
            both.sameLinked(1, others[k], 0);
        }
        both.same("lost", () -> both.model.lost(0, 1), () -> both.tree.lost(0, 1));
        both.same("lost back", () -> both.model.lost(1, 0), () -> both.tree.lost(1, 0));
    }

    /** Each set of notes among four codes that leave something out. */
    private static void sameNotes(int set) {
        SmallCasesTest both = new SmallCasesTest("notes " + set);
        long[] codes = {101, 10101, 1010101, 102};
        both.rows("01a.b;-0101b;--010101c;02b.c;");
        for (int k = 0; k < 12; k++) {
            if ((set >> k & 1) == 1) {
                int one = k / 3;
                both.note(codes[one], 1, codes[(one + 1 + k % 3) % 4]);
            }
        }
        for (long code : codes) {
            for (int i = 0; i < 4; i++) {
                both.sameNoted(code, i);
            }
        }
        both.type("b.c");
        both.sameSearch();
    }

    private void same(String call, LongSupplier want, LongSupplier got) {
        Check.due(about + ": " + call, Check.told(want), Check.told(got));
    }

    private void type(String text) {
        for (char c : text.toCharArray()) {
            same("sign " + c, () -> model.sign(c) ? 1 : 0, () -> tree.sign(c) ? 1 : 0);
        }
    }

    private void rows(String text) {
        type(text);
        same("read " + text, model::read, tree::read);
    }

    private void edition(int e) {
        same("edition " + e, () -> model.edition(e) ? 1 : 0, () -> tree.edition(e) ? 1 : 0);
    }

    private void link(int from, long code, int to, long other) {
        same("link " + code + " " + other, () -> model.link(from, code, to, other) ? 1 : 0,
                () -> tree.link(from, code, to, other) ? 1 : 0);
    }

    private void sameLinked(int from, long code, int to) {
        same("became " + code, () -> model.became(from, code, to), () -> tree.became(from, code, to));
        for (int i = 0; i < 4; i++) {
            int k = i;
            same("linked " + code, () -> model.linked(from, code, to, k), () -> tree.linked(from, code, to, k));
        }
    }

    private void note(long code, int kind, long other) {
        same("note " + code + " " + other,
                () -> model.note(code, kind, other), () -> tree.note(code, kind, other));
    }

    private void sameNoted(long code, int i) {
        same("noted " + code + " " + i, () -> model.noted(code, i), () -> tree.noted(code, i));
    }

    private void sameFailure() {
        same("failure", () -> model.failure(0), () -> tree.failure(0));
        same("its place", () -> model.failure(1), () -> tree.failure(1));
    }

    private void sameSearch() {
        same("search", model::search, tree::search);
        sameFailure();
        for (int i = 0; i <= model.count(4); i++) {
            int k = i;
            same("found " + k, () -> model.found(k, 0), () -> tree.found(k, 0));
            same("points " + k, () -> model.found(k, 1), () -> tree.found(k, 1));
        }
    }
}
