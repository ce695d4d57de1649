import java.util.function.LongSupplier;

/** Each promise of the document by hand: ordinary inputs, the named edges and wrong inputs. */
public final class PromisesTest {
    private static final String INDEX = Check.INDEX;
    private static final String ARGUMENT = Check.ARGUMENT;
    private static final String STATE = Check.STATE;
    private static final int MIN = Integer.MIN_VALUE;
    private static final int MAX = Integer.MAX_VALUE;
    private static final String GOODS =
            "01animals;-0101horses.live;--010121pure;---01012110old;----0101211005grey.old;"
            + "--010129other;-0102cattle.live;02meat;-0201beef;";
    private static final String FEW = "01a;02b;-0201c;";

    private PromisesTest() {
    }

    public static void main(String[] args) {
        newObject();
        signs();
        reading();
        failureSigns();
        failureEnds();
        failureDashes();
        failureCodes();
        failureOrder();
        failureRows();
        failureState();
        editions();
        rows();
        finding();
        notes();
        notesLimit();
        notesGo();
        noted();
        links();
        linksLimit();
        linksGo();
        becoming();
        linkedCodes();
        losing();
        searching();
        searchingWords();
        searchHalves();
        searchFailures();
        foundRows();
        counts();
        Check.end();
    }

    private static void due(String what, Object want, LongSupplier call) {
        Check.due(what, want, Check.told(call));
    }

    private static void due(String what, boolean want, boolean got) {
        Check.due(what, want, got);
    }

    private static GoodsTree type(GoodsTree x, String text) {
        for (char c : text.toCharArray()) {
            due("sign " + c + " of " + text, true, x.sign(c));
        }
        return x;
    }

    private static GoodsTree goods() {
        GoodsTree x = type(new GoodsTree(), GOODS);
        due("read goods", 9, x::read);
        return x;
    }

    /** Goods in the editions 0 and 1, the present one being 0; edition 2 without rows. */
    private static GoodsTree twoEditions() {
        GoodsTree x = goods();
        x.edition(1);
        type(x, GOODS).read();
        x.edition(0);
        return x;
    }

    private static void fails(String text, int kind, int place) {
        GoodsTree x = type(new GoodsTree(), text);
        due("read " + text, STATE, x::read);
        due("failure of " + text, kind, () -> x.failure(0));
        due("place of " + text, place, () -> x.failure(1));
        due("text used up by " + text, 0, () -> x.count(0));
        due("no rows of " + text, 0, () -> x.count(10));
    }

    private static void reads(String text, int rows) {
        GoodsTree x = type(new GoodsTree(), text);
        due("read " + text, rows, x::read);
        due("failure of " + text, 0, () -> x.failure(0));
        due("place of " + text, -1, () -> x.failure(1));
        due("text used up by " + text, 0, () -> x.count(0));
        due("rows of " + text, rows, () -> x.count(10));
    }

    private static String chapters(int many) {
        StringBuilder b = new StringBuilder();
        for (int i = 0; i < many; i++) {
            b.append((char) ('0' + i / 10)).append((char) ('0' + i % 10)).append("a;");
        }
        return b.toString();
    }

    private static void newObject() {
        GoodsTree x = new GoodsTree();
        for (int what : new int[] {0, 1, 2, 3, 4, 10, 11, 12, 20, 21, 22}) {
            due("new count " + what, 0, () -> x.count(what));
        }
        due("new failure", 0, () -> x.failure(0));
        due("new place", -1, () -> x.failure(1));
        due("new found", INDEX, () -> x.found(0, 0));
        due("new row", INDEX, () -> x.row(0, 0));
        due("NONE", -1, () -> GoodsTree.NONE);
    }

    private static void signs() {
        for (int c = -300; c < 700; c++) {
            boolean can = c >= 0 && c < 128
                    && "-.;0123456789abcdefghijklmnopqrstuvwxyzABCDEFGHIJKLMNOPQRSTUVWXYZ".indexOf(c) >= 0;
            GoodsTree x = new GoodsTree();
            due("sign " + c, can, x.sign(c));
            due("signs behind " + c, can ? 1 : 0, () -> x.count(0));
        }
        for (int c : new int[] {MIN, MAX, 'a' + 65536, 'a' - 65536, '1' + 256}) {
            due("sign " + c, false, new GoodsTree().sign(c));
        }
        GoodsTree x = new GoodsTree();
        for (int i = 0; i < 400; i++) {
            due("sign at " + i, true, x.sign('a'));
        }
        due("401st sign", false, x.sign('a'));
        due("400 signs", 400, () -> x.count(0));
        due("nine letters", STATE, x::read);
        due("signs again", true, x.sign('a'));
    }

    private static void reading() {
        reads("01a;", 1);
        reads("00a;", 1);
        reads("01abcdefgh.a.b.c;", 1);
        reads("01a;-0101a;--010101a;---01010101a;----0101010101a;", 5);
        reads("01a;-0101010101a;", 2);
        reads("01a;-0101a;--010101a;02a;", 4);
        reads("01a;-0101a;--010150a;-0102a;", 4);
        reads("98Ab;99cD;", 2);
        reads(chapters(40), 40);
        GoodsTree x = goods();
        type(x, "05a;06b;");
        due("read anew", 2, x::read);
        due("in place of", 2, () -> x.count(10));
        due("old code is gone", -1, () -> x.find(101));
        type(x, "05a;06");
        due("read that fails", STATE, x::read);
        due("it has what it had", 2, () -> x.count(10));
        due("it has what it had", 1, () -> x.find(106));
    }

    private static void failureSigns() {
        fails("a", 1, 0);
        fails(";", 1, 0);
        fails(".", 1, 0);
        fails("1a;", 1, 1);
        fails("01;", 1, 2);
        fails("01.", 1, 2);
        fails("01-", 1, 2);
        fails("010a;", 1, 3);
        fails("010;", 1, 3);
        fails("01a;-010a;", 1, 8);
        fails("01a;-01010101010a;", 1, 15);
        fails("01010101010a;", 1, 10);
        fails("010101010101a;", 1, 10);
        fails("01a1;", 1, 3);
        fails("01a-;", 1, 3);
        fails("01a.;", 1, 4);
        fails("01a..b;", 1, 4);
        fails("01a.1;", 1, 4);
        fails("01abcdefghi;", 1, 10);
        fails("01a.abcdefghi;", 1, 12);
        fails("01a.b.c.d.e;", 1, 9);
        fails("01a.b.c.d.", 1, 9);
        fails("01a;;", 1, 4);
        fails("01a;a;", 1, 4);
        fails("01a;.", 1, 4);
        fails("01a;-a;", 1, 5);
        fails("01a;-;", 1, 5);
        fails("01a;-0101a;--010101a;---01010101a;----0101010101a;-----", 1, 54);
        fails("01a;-0101a;--010101a;---01010101a;----0101010101a;-----0101010102a;", 1, 54);
    }

    private static void failureEnds() {
        fails("", 1, 0);
        fails("0", 1, 1);
        fails("01", 1, 2);
        fails("010", 1, 3);
        fails("01a", 1, 3);
        fails("01a.", 1, 4);
        fails("01abcdefgh", 1, 10);
        fails("01a;-", 1, 5);
        fails("01a;-0", 1, 6);
        fails("01a;-0101", 1, 9);
        fails("01a;-0101010101", 1, 15);
        fails("01a;02a", 1, 7);
    }

    private static void failureDashes() {
        fails("-", 2, 0);
        fails("-01a;", 2, 0);
        fails("-----01a;", 2, 0);
        fails("-a", 2, 0);
        fails("01a;--", 2, 4);
        fails("01a;--0101a;", 2, 4);
        fails("01a;--;", 2, 4);
        fails("01a;-0101a;---01010101a;", 2, 11);
        fails("01a;-0101a;02a;--0201a;", 2, 15);
        fails("01a;-0101a;--010101a;-----", 2, 21);
        // The fifth dash can't stand, but the row has more than the one ahead and one, and that is told ahead of it.
        fails("01a;-0101a;--010101a;---01010101a;-----0101010102a;", 2, 34);
        fails("01a;-0101a;--010101a;---01010101a;----0101010101a;------", 2, 50);
    }

    private static void failureCodes() {
        fails("0101a;", 3, 0);
        fails("0101", 3, 0);
        fails("0101010101;", 3, 0);
        fails("01a;0201a;", 3, 4);
        fails("01a;-02a;", 3, 5);
        fails("01a;-01a;", 3, 5);
        fails("01a;-0201a;", 3, 5);
        fails("01a;-0101a;-0201a;", 3, 12);
        fails("01a;-0101a;--0101a;", 3, 13);
        fails("01a;-0101a;--0102a;", 3, 13);
        fails("01a;-0101a;--010201a;", 3, 13);
        fails("01a;-0101a;--010101a;-02a;", 3, 22);
        fails("01a;-0201abcdefghi;", 3, 5);
        fails("01a;-0001a;", 3, 5);
    }

    private static void failureOrder() {
        fails("02a;01a;", 4, 4);
        fails("02a;02a;", 4, 4);
        fails("02a;01", 4, 4);
        fails("02a;01;", 4, 4);
        fails("02a;-0202a;-0201a;", 4, 12);
        fails("02a;-0202a;-0202a;", 4, 12);
        fails("01a;-010150a;-0101a;", 4, 14);
        fails("01a;-0101a;--010101a;-0101a;", 4, 22);
        fails("01a;-0101a;01a;", 4, 11);
        fails("01a;-0102a;--01020304a;--010203a;", 4, 25);
        fails("01a;-0100a;-010000a;--01000000a;-010000a;", 4, 33);
        reads("01a;-0100a;-010000a;-01000000a;", 4);
        reads("01a;-010199a;-0102a;", 3);
        // An odd or a too long code is of no order.
        fails("02a;010a;", 1, 7);
        fails("02a;01010101010a;", 1, 14);
        fails("02a;0a;", 1, 5);
    }

    private static void failureRows() {
        fails(chapters(41), 5, 160);
        fails(chapters(40) + "01a;", 5, 160);
        fails(chapters(40) + "0101a;", 5, 160);
        fails(chapters(40) + "0", 5, 160);
        fails(chapters(40) + "-", 5, 160);
        fails(chapters(40) + "-390a;", 5, 160);
        fails(chapters(40) + "--", 2, 160);
        fails(chapters(40) + ";", 1, 160);
        fails(chapters(40) + "a", 1, 160);
        fails(chapters(39) + "38a;40", 4, 156);
        reads(chapters(39) + "-3801a;", 40);
    }

    private static void failureState() {
        GoodsTree x = new GoodsTree();
        due("read of nothing", STATE, x::read);
        due("failure", 1, () -> x.failure(0));
        type(x, "01a;").read();
        due("none behind a right one", 0, () -> x.failure(0));
        type(x, "01a;--");
        due("too many dashes", STATE, x::read);
        type(x, "01a;-");
        due("a dash of an earlier text is none", STATE, x::read);
        due("too early an end", 1, () -> x.failure(0));
        due("at the length", 5, () -> x.failure(1));
        type(x, "01a;").read();
        type(x, "01a");
        due("a ; of an earlier text is none", STATE, x::read);
        due("at the length", 3, () -> x.failure(1));
        type(x, "01a;").read();
        due("no place behind a right one", -1, () -> x.failure(1));
        type(x, "-");
        due("search of a dash", STATE, x::search);
        due("failure of the search", 1, () -> x.failure(0));
        due("place of the search", 0, () -> x.failure(1));
        type(x, "a").search();
        due("none behind a right search", 0, () -> x.failure(0));
        due("no place behind a right search", -1, () -> x.failure(1));
        for (int which : new int[] {-1, 2, 3, MIN, MAX}) {
            due("failure " + which, -1, () -> x.failure(which));
        }
    }

    private static void editions() {
        GoodsTree x = goods();
        for (int e : new int[] {0, -1, 3, MIN, MAX}) {
            due("edition " + e, false, x.edition(e));
            due("present", 0, () -> x.count(1));
        }
        due("edition 2", true, x.edition(2));
        due("present", 2, () -> x.count(1));
        due("edition 2 again", false, x.edition(2));
        due("no row there", INDEX, () -> x.row(0, 0));
        due("no code there", -1, () -> x.find(101));
        type(x, "07x;");
        due("edition with text", true, x.edition(1));
        due("the text stays", 4, () -> x.count(0));
        due("read into 1", 1, x::read);
        due("rows of 0", 9, () -> x.count(10));
        due("rows of 1", 1, () -> x.count(11));
        due("rows of 2", 0, () -> x.count(12));
        due("edition 0", true, x.edition(0));
        due("code of 0", 0, () -> x.find(101));
    }

    private static void rows() {
        GoodsTree x = goods();
        long[][] want = {
            {101, 0, 1, 0, 2}, {10101, 1, 2, 101, 2}, {1010121, 2, 1, 10101, 1},
            {101012110, 3, 1, 1010121, 1}, {10101211005L, 4, 2, 101012110, 0},
            {1010129, 2, 1, 10101, 0}, {10102, 1, 2, 101, 0}, {102, 0, 1, 0, 1}, {10201, 1, 1, 102, 0}};
        for (int i = 0; i < want.length; i++) {
            for (int what = 0; what < 5; what++) {
                int row = i;
                int w = what;
                due("row " + i + " " + what, want[i][what], () -> x.row(row, w));
            }
        }
        for (int bad : new int[] {-1, 9, 40, MIN, MAX}) {
            due("row " + bad, INDEX, () -> x.row(bad, 0));
            due("row " + bad + " of what " + bad, INDEX, () -> x.row(bad, bad));
        }
        for (int bad : new int[] {-1, 5, MIN, MAX}) {
            due("row of what " + bad, INDEX, () -> x.row(0, bad));
        }
        type(x, "00a.b.c.d;-0000a;").read();
        due("a shorter reading has no old rows", INDEX, () -> x.row(2, 0));
        due("code 00", 100, () -> x.row(0, 0));
        due("four words", 4, () -> x.row(0, 2));
        due("below it", 1, () -> x.row(0, 4));
        due("nothing below the last", 0, () -> x.row(1, 4));
    }

    private static void finding() {
        GoodsTree x = goods();
        due("find the first", 0, () -> x.find(101));
        due("find the last", 8, () -> x.find(10201));
        due("find ten digits", 4, () -> x.find(10101211005L));
        for (long bad : new long[] {0, 1, -1, 1010, 103, 10103, 0x100000000L + 101, Long.MIN_VALUE, Long.MAX_VALUE}) {
            due("find " + bad, -1, () -> x.find(bad));
        }
    }

    private static void notes() {
        GoodsTree x = goods();
        due("note", 1, () -> x.note(101, 0, 102));
        due("the same", STATE, () -> x.note(101, 0, 102));
        due("the other kind", 2, () -> x.note(101, 1, 102));
        due("the other way", 3, () -> x.note(102, 0, 101));
        due("another code", 4, () -> x.note(101, 0, 10201));
        for (int kind : new int[] {-1, 2, MIN, MAX}) {
            due("kind " + kind, ARGUMENT, () -> x.note(101, kind, 102));
        }
        due("no code", ARGUMENT, () -> x.note(103, 0, 102));
        due("no other", ARGUMENT, () -> x.note(101, 0, 103));
        due("one code twice", ARGUMENT, () -> x.note(101, 0, 101));
        due("refused ones are none", 4, () -> x.count(2));
        x.edition(1);
        due("no code of this edition", ARGUMENT, () -> x.note(101, 0, 102));
        type(x, "01a;02b;").read();
        due("first of this edition", 1, () -> x.note(101, 0, 102));
        due("in all", 5, () -> x.count(2));
    }

    private static void notesLimit() {
        GoodsTree x = twoEditions();
        for (int i = 0; i < 19; i++) {
            long other = x.row(1 + i % 8, 0);
            int row = 1 + (i + 1 + i / 8) % 8;
            due("note " + i, i + 1, () -> x.note(x.row(row, 0), 0, other));
        }
        x.edition(1);
        due("20th", 1, () -> x.note(101, 0, 102));
        due("21st", STATE, () -> x.note(101, 1, 102));
        due("the same when full", STATE, () -> x.note(101, 0, 102));
        due("a wrong one when full", ARGUMENT, () -> x.note(101, 2, 102));
        due("20 in all", 20, () -> x.count(2));
        type(x, "01a;02b;").read();
        due("19 left", 19, () -> x.count(2));
        due("room again", 1, () -> x.note(101, 1, 102));
    }

    private static void notesGo() {
        GoodsTree x = twoEditions();
        x.note(101, 0, 102);
        x.edition(1);
        x.note(101, 1, 102);
        x.note(101, 1, 10201);
        type(x, "01a");
        due("a failed reading", STATE, x::read);
        due("takes none", 3, () -> x.count(2));
        type(x, GOODS).read();
        due("those of edition 1 go", 1, () -> x.count(2));
        due("none there", -1, () -> x.noted(101, 0));
        x.edition(0);
        due("that of edition 0 stays", 2 * 7, () -> x.noted(101, 0));
    }

    private static void noted() {
        GoodsTree x = goods();
        x.note(101, 1, 10201);
        x.note(102, 0, 101);
        x.note(101, 0, 102);
        x.note(101, 1, 10101);
        due("the first", 2 * 8 + 1, () -> x.noted(101, 0));
        due("the second", 2 * 7, () -> x.noted(101, 1));
        due("the third", 2 * 1 + 1, () -> x.noted(101, 2));
        due("of another code", 0, () -> x.noted(102, 0));
        due("none as the other one", -1, () -> x.noted(10201, 0));
        for (int bad : new int[] {-1, 3, 20, MIN, MAX}) {
            due("noted at " + bad, -1, () -> x.noted(101, bad));
        }
        due("no code", ARGUMENT, () -> x.noted(103, 0));
        due("no code nor note", ARGUMENT, () -> x.noted(0, -1));
        x.edition(1);
        due("none of this edition", ARGUMENT, () -> x.noted(101, 0));
        type(x, GOODS).read();
        due("no note of this edition", -1, () -> x.noted(101, 0));
    }

    private static void links() {
        GoodsTree x = twoEditions();
        due("link", true, x.link(0, 101, 1, 102));
        due("the same", false, x.link(0, 101, 1, 102));
        due("another code", true, x.link(0, 10101, 1, 102));
        due("another other", true, x.link(0, 101, 1, 101));
        due("back", true, x.link(1, 102, 0, 101));
        due("the same edition", false, x.link(0, 101, 0, 102));
        due("no code", false, x.link(0, 103, 1, 102));
        due("no other", false, x.link(0, 101, 1, 103));
        due("an edition without rows", false, x.link(0, 101, 2, 101));
        for (int e : new int[] {-1, 3, MIN, MAX}) {
            due("from " + e, false, x.link(e, 101, 1, 102));
            due("to " + e, false, x.link(0, 101, e, 102));
            due("both " + e, false, x.link(e, 101, e, 102));
        }
        due("refused ones are none", 4, () -> x.count(3));
    }

    private static void linksLimit() {
        GoodsTree x = twoEditions();
        for (int i = 0; i < 60; i++) {
            due("link " + i, true, x.link(i % 2, x.row(i / 2 % 9, 0), 1 - i % 2, x.row(i / 18, 0)));
        }
        due("61st", false, x.link(0, 10201, 1, 10201));
        due("60 in all", 60, () -> x.count(3));
        type(x, "01a;02b;").read();
        due("room again", true, x.link(0, 101, 1, 10201));
    }

    private static void linksGo() {
        GoodsTree x = new GoodsTree();
        for (int e = 2; e >= 0; e--) {
            x.edition(e);
            type(x, FEW).read();
        }
        x.link(0, 101, 1, 101);
        x.link(1, 101, 0, 102);
        x.link(1, 101, 2, 102);
        x.link(2, 101, 0, 102);
        x.link(0, 102, 2, 10201);
        type(x, "01a;-");
        due("a failed reading", STATE, x::read);
        due("takes none", 5, () -> x.count(3));
        x.edition(1);
        type(x, "01a;02b;").read();
        due("those with edition 1 go", 2, () -> x.count(3));
        due("0 to 1", 0, () -> x.became(0, 101, 1));
        due("1 to 2", 0, () -> x.became(1, 101, 2));
        due("2 to 0 stays", 102, () -> x.linked(2, 101, 0, 0));
        due("0 to 2 stays", 10201, () -> x.linked(0, 102, 2, 0));
        x.edition(2);
        type(x, FEW).read();
        due("the rest goes with edition 2", 0, () -> x.count(3));
        x.link(0, 101, 2, 102);
        due("gone ones are no others", 1, () -> x.became(0, 101, 2));
        x.link(0, 102, 1, 102);
        type(x, FEW).read();
        due("the first goes alone", 1, () -> x.count(3));
        due("the second stays", 1, () -> x.became(0, 102, 1));
        x.link(2, 102, 1, 102);
        type(x, FEW).read();
        due("the last goes alone", 1, () -> x.count(3));
        x.link(2, 101, 1, 101);
        x.edition(0);
        type(x, FEW).read();
        due("the first one from it goes alone", 1, () -> x.count(3));
        due("that of the others stays", 1, () -> x.became(2, 101, 1));
    }

    private static void becoming() {
        GoodsTree x = twoEditions();
        x.edition(2);
        type(x, GOODS).read();
        due("no link", 0, () -> x.became(0, 101, 1));
        x.link(0, 101, 1, 101);
        due("one to one", 1, () -> x.became(0, 101, 1));
        due("not back", 0, () -> x.became(1, 101, 0));
        x.link(2, 101, 1, 101);
        due("one from a third edition is no other", 1, () -> x.became(0, 101, 1));
        due("nor is the first one for it", 1, () -> x.became(2, 101, 1));
        x.link(0, 101, 2, 101);
        due("one to a third edition is no other", 1, () -> x.became(0, 101, 1));
        x.link(0, 101, 1, 102);
        due("split", 2, () -> x.became(0, 101, 1));
        x.link(0, 10101, 1, 102);
        due("joined", 3, () -> x.became(0, 10101, 1));
        due("both", 4, () -> x.became(0, 101, 1));
        due("of 102 none", 0, () -> x.became(0, 102, 1));
        wrongLinkCalls("became", x, false);
    }

    private static void linkedCodes() {
        GoodsTree x = twoEditions();
        x.link(0, 101, 1, 102);
        x.link(0, 102, 1, 102);
        x.link(0, 101, 1, 10101);
        x.link(1, 101, 0, 10201);
        x.link(0, 101, 1, 101);
        due("the first", 102, () -> x.linked(0, 101, 1, 0));
        due("the second", 10101, () -> x.linked(0, 101, 1, 1));
        due("the third", 101, () -> x.linked(0, 101, 1, 2));
        due("back", 10201, () -> x.linked(1, 101, 0, 0));
        due("to a third edition", 0, () -> x.linked(0, 101, 2, 0));
        x.edition(2);
        type(x, GOODS).read();
        x.link(1, 102, 2, 102);
        x.link(1, 102, 0, 101);
        due("one to edition 2 is none to edition 0", 101, () -> x.linked(1, 102, 0, 0));
        due("and one alone", 1, () -> x.became(1, 102, 0));
        for (int bad : new int[] {-1, 3, 60, MIN, MAX}) {
            due("linked at " + bad, 0, () -> x.linked(0, 101, 1, bad));
        }
        wrongLinkCalls("linked", x, true);
    }

    private static void wrongLinkCalls(String name, GoodsTree x, boolean linked) {
        Object[][] calls = {
            {0, 101L, 0}, {0, 103L, 1}, {0, 0L, 1}, {-1, 101L, 0}, {3, 101L, 0}, {0, 101L, -1},
            {0, 101L, 3}, {MIN, 101L, 0}, {0, 101L, MAX}, {0, Long.MIN_VALUE, 1}};
        for (Object[] c : calls) {
            int from = (Integer) c[0];
            long code = (Long) c[1];
            int to = (Integer) c[2];
            due(name + " " + from + " " + code + " " + to, ARGUMENT,
                    () -> linked ? x.linked(from, code, to, 0) : x.became(from, code, to));
        }
    }

    private static void losing() {
        GoodsTree x = twoEditions();
        due("all without rows below", 4, () -> x.lost(0, 1));
        x.link(0, 101, 1, 101);
        due("one with rows below does not count", 4, () -> x.lost(0, 1));
        x.link(0, 10201, 1, 101);
        due("one less", 3, () -> x.lost(0, 1));
        x.link(0, 10201, 1, 102);
        due("a second link counts no more", 3, () -> x.lost(0, 1));
        due("back", 4, () -> x.lost(1, 0));
        due("to a third edition", 4, () -> x.lost(0, 2));
        due("an edition without rows", 0, () -> x.lost(2, 0));
        for (int e : new int[] {-1, 3, MIN, MAX}) {
            due("lost from " + e, ARGUMENT, () -> x.lost(e, 0));
            due("lost to " + e, ARGUMENT, () -> x.lost(0, e));
        }
        due("lost to itself", ARGUMENT, () -> x.lost(1, 1));
    }

    private static void searches(GoodsTree x, String asked, long... codesAndPoints) {
        type(x, asked);
        int many = codesAndPoints.length / 2;
        due("search " + asked, many, x::search);
        due("count of " + asked, many, () -> x.count(4));
        due("text used up by " + asked, 0, () -> x.count(0));
        for (int i = 0; i < codesAndPoints.length; i++) {
            int k = i;
            due("found by " + asked + " at " + i, codesAndPoints[i], () -> x.found(k / 2, k % 2));
        }
        due("no more found by " + asked, INDEX, () -> x.found(many, 0));
    }

    private static void searching() {
        GoodsTree x = goods();
        searches(x, "nothing");
        searches(x, "ol");
        searches(x, "beef", 10201, 4);
        searches(x, "BEEF.meat", 10201, 6, 102, 4);
        searches(x, "beef.beef.beef.beef.beef.beef", 10201, 24);
        searches(x, "old", 101012110, 4, 10101211005L, 4);
        searches(x, "animals", 101, 4, 10101, 2, 1010121, 2, 101012110, 2, 10101211005L, 2, 1010129, 2, 10102, 2);
        searches(x, "live.old.grey", 10101211005L, 10, 101012110, 6, 10101, 4, 10102, 4, 1010121, 2, 1010129, 2);
        x.edition(1);
        searches(x, "beef");
    }

    private static void searchingWords() {
        GoodsTree x = type(new GoodsTree(), "01abcdefgh.b;02abcdefg.b;03b.b;");
        due("read words", 3, x::read);
        searches(x, "abcdefgh", 101, 4);
        searches(x, "abcdefg", 102, 4);
        searches(x, "b", 101, 4, 102, 4, 103, 4);
        type(x, "01z;02ab.aab;").read();
        searches(x, "b");
        searches(x, "ba");
        searches(x, "aba");
        searches(x, "aab", 102, 4);
        type(x, "01a.b.c.d;02e;").read();
        searches(x, "e", 102, 4);
        type(x, "01x;").read();
        type(x, "01a;").read();
        searches(x, "b");
        type(x, chapters(39) + "99a.b.c.d;").read();
        searches(x, "d", 199, 4);
        searches(x, "z");
    }

    private static void searchHalves() {
        GoodsTree x = twoEditions();
        x.note(101, 0, 10102);
        searches(x, "cattle", 10102, 4);
        x.note(102, 1, 10102);
        searches(x, "cattle", 10102, 4);
        x.edition(1);
        x.note(101, 1, 10102);
        x.edition(0);
        searches(x, "cattle", 10102, 4);
        x.note(101, 1, 10102);
        searches(x, "cattle", 10102, 2);
        searches(x, "live", 10101, 4, 1010121, 2, 101012110, 2, 10101211005L, 2, 1010129, 2, 10102, 2);
        x.note(10101, 1, 10101211005L);
        searches(x, "pure", 1010121, 4, 101012110, 2, 10101211005L, 1);
        x.note(101, 1, 10101211005L);
        searches(x, "grey.pure", 1010121, 4, 10101211005L, 3, 101012110, 2);
        x.note(10101211005L, 1, 101012110);
        searches(x, "pure", 1010121, 4, 101012110, 2, 10101211005L, 1);
    }

    private static void failsToSearch(String text, int place) {
        GoodsTree x = goods();
        searches(x, "beef", 10201, 4);
        type(x, text);
        due("search " + text, STATE, x::search);
        due("failure of search " + text, 1, () -> x.failure(0));
        due("place of search " + text, place, () -> x.failure(1));
        due("text used up by search " + text, 0, () -> x.count(0));
        due("found by the search ahead of " + text, 10201, () -> x.found(0, 0));
    }

    private static void searchFailures() {
        failsToSearch("", 0);
        failsToSearch(".", 0);
        failsToSearch("-", 0);
        failsToSearch("1", 0);
        failsToSearch("a.", 2);
        failsToSearch("a..b", 2);
        failsToSearch("a;", 1);
        failsToSearch("a1", 1);
        failsToSearch("a.-", 2);
        failsToSearch("abcdefghi", 8);
        failsToSearch("a.abcdefghi", 10);
        failsToSearch("a.b.c.d.e.f.", 11);
        failsToSearch("a.b.c.d.e.f.g", 11);
        failsToSearch("a.b.c.d.e.f;", 11);
    }

    private static void foundRows() {
        GoodsTree x = goods();
        searches(x, "meat", 102, 4, 10201, 2);
        for (int bad : new int[] {-1, 2, 40, MIN, MAX}) {
            due("found " + bad, INDEX, () -> x.found(bad, 0));
            due("found " + bad + " points", INDEX, () -> x.found(bad, 1));
        }
        for (int bad : new int[] {-1, 2, MIN, MAX}) {
            due("found what " + bad, INDEX, () -> x.found(0, bad));
        }
        type(x, "09z;").read();
        x.edition(1);
        due("still found by the latest search", 10201, () -> x.found(1, 0));
        due("still with its points", 2, () -> x.found(1, 1));
        due("still two", 2, () -> x.count(4));
    }

    private static void counts() {
        GoodsTree x = twoEditions();
        x.note(101, 0, 102);
        x.link(0, 101, 1, 101);
        x.link(0, 101, 1, 102);
        searches(x, "meat", 102, 4, 10201, 2);
        type(x, "abc");
        x.edition(1);
        int[][] want = {
            {0, 3}, {1, 1}, {2, 1}, {3, 2}, {4, 2}, {5, -1}, {9, -1}, {10, 9}, {11, 9}, {12, 0},
            {13, -1}, {19, -1}, {20, 2}, {21, 2}, {22, 0}, {23, -1}, {30, -1}, {-1, -1}, {MIN, -1}, {MAX, -1}};
        for (int[] w : want) {
            due("count " + w[0], w[1], () -> x.count(w[0]));
        }
    }
}
