import java.util.function.LongSupplier;

/**
 * A GoodsTree whose answers are texts, an exception being told by its name, and which lets no test make
 * more calls than the document promises answers for.
 */
final class Goods {
    private static final int MOST_CALLS = 512;

    private final GoodsTree tree = new GoodsTree();
    private int calls = 0;
    private String latest = "new";

    /** A new one whose edition 0 has the rows of this text. */
    static Goods of(String text) {
        return new Goods().rows(text);
    }

    /** A new one whose editions 0, 1, 2 have the rows of these texts; edition 0 is the present one. */
    static Goods of(String first, String second, String third) {
        return of(first).go(1).rows(second).go(2).rows(third).go(0);
    }

    Goods due(Object want, String got) {
        Check.due(latest, want, got);
        return this;
    }

    Goods type(String text) {
        for (char c : text.toCharArray()) {
            due(true, sign(c));
        }
        return this;
    }

    Goods rows(String text) {
        type(text);
        read();
        return due(0, failure(0));
    }

    Goods go(int e) {
        return due(true, edition(e));
    }

    Goods search(String asked) {
        type(asked);
        search();
        return due(0, failure(0));
    }

    private String call(String told, LongSupplier answer) {
        calls++;
        if (calls > MOST_CALLS) {
            throw new AssertionError("a test makes more than " + MOST_CALLS + " calls");
        }
        latest = told;
        return Check.told(answer);
    }

    private String ask(String told, LongSupplier answer) {
        String got = call(told, answer);
        return got.equals("1") ? "true" : got.equals("0") ? "false" : got;
    }

    String sign(int c) {
        return ask("sign(" + c + ")", () -> tree.sign(c) ? 1 : 0);
    }

    String read() {
        return call("read()", tree::read);
    }

    String failure(int which) {
        return call("failure(" + which + ")", () -> tree.failure(which));
    }

    String edition(int e) {
        return ask("edition(" + e + ")", () -> tree.edition(e) ? 1 : 0);
    }

    String row(int i, int what) {
        return call("row(" + i + ", " + what + ")", () -> tree.row(i, what));
    }

    String find(long code) {
        return call("find(" + code + ")", () -> tree.find(code));
    }

    String note(long code, int kind, long other) {
        return call("note(" + code + ", " + kind + ", " + other + ")", () -> tree.note(code, kind, other));
    }

    String noted(long code, int i) {
        return call("noted(" + code + ", " + i + ")", () -> tree.noted(code, i));
    }

    String link(int from, long code, int to, long other) {
        return ask("link(" + from + ", " + code + ", " + to + ", " + other + ")",
                () -> tree.link(from, code, to, other) ? 1 : 0);
    }

    String became(int from, long code, int to) {
        return call("became(" + from + ", " + code + ", " + to + ")", () -> tree.became(from, code, to));
    }

    String linked(int from, long code, int to, int i) {
        return call("linked(" + from + ", " + code + ", " + to + ", " + i + ")",
                () -> tree.linked(from, code, to, i));
    }

    String lost(int from, int to) {
        return call("lost(" + from + ", " + to + ")", () -> tree.lost(from, to));
    }

    String search() {
        return call("search()", tree::search);
    }

    String found(int i, int what) {
        return call("found(" + i + ", " + what + ")", () -> tree.found(i, what));
    }

    String count(int what) {
        return call("count(" + what + ")", () -> tree.count(what));
    }

    /** All that the face tells, but for the text and the failure, which reading and searching change. */
    String heldState() {
        StringBuilder told = new StringBuilder();
        for (int what : new int[] {1, 2, 3, 4, 10, 11, 12, 20, 21, 22}) {
            told.append(count(what)).append(' ');
        }
        for (int i = 0; i < Integer.parseInt(count(4)); i++) {
            told.append(found(i, 0)).append(':').append(found(i, 1)).append(' ');
        }
        int present = Integer.parseInt(count(1));
        for (int e = 0; e < 3; e++) {
            edition(e);
            for (int i = 0; i < Integer.parseInt(count(10 + e)); i++) {
                tellRow(told, e, i);
            }
        }
        edition(present);
        return told.toString();
    }

    String state() {
        return "text " + count(0) + " failure " + failure(0) + " at " + failure(1) + " " + heldState();
    }

    private void tellRow(StringBuilder told, int e, int i) {
        told.append("\n");
        for (int what = 0; what < 5; what++) {
            told.append(row(i, what)).append(' ');
        }
        long code = Long.parseLong(row(i, 0));
        String next = noted(code, 0);
        for (int k = 1; !next.equals("-1") && k < 30; k++) {
            told.append("note ").append(next).append(' ');
            next = noted(code, k);
        }
        for (int to = 0; to < 3; to++) {
            next = to == e ? "0" : linked(e, code, to, 0);
            for (int k = 1; !next.equals("0") && k < 70; k++) {
                told.append("link ").append(to).append(' ').append(next).append(' ');
                next = linked(e, code, to, k);
            }
        }
    }
}
