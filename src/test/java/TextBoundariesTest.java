/** The boundary cases of a new object, of the text and its signs, and of what is told of a failure. */
public final class TextBoundariesTest {
    private static final int MIN = Integer.MIN_VALUE;
    private static final int MAX = Integer.MAX_VALUE;

    private TextBoundariesTest() {
    }

    public static void main(String[] args) {
        Sentences.run(TextBoundariesTest.class);
    }

    private static Goods full(char c) {
        return new Goods().type(String.valueOf(c).repeat(400));
    }

    @Says(where = "The constants", words = "`NONE = -1`: None.")
    static void constantNone() {
        Check.due("NONE", -1, GoodsTree.NONE);
    }

    @Says(where = "Promise 1", words = "No text;")
    static void newObjectHasNoText() {
        Goods x = new Goods();
        x.due(0, x.count(0));
        x.due(Check.STATE, x.read());
        x.due(0, x.failure(1));
    }

    @Says(where = "Promise 1", words = "editions without rows.")
    static void newObjectHasNoRows() {
        Goods x = new Goods();
        for (int e = 0; e < 3; e++) {
            x.edition(e);
            x.due(0, x.count(10 + e));
            x.due(0, x.count(20 + e));
            x.due(Check.INDEX, x.row(0, 0));
            x.due(-1, x.find(0));
            x.due(-1, x.find(101));
        }
    }

    @Says(where = "Promise 1", words = "A new object")
    static void newObjectHasNothingElse() {
        Goods x = new Goods();
        x.due(0, x.count(2));
        x.due(0, x.count(3));
        x.due(0, x.count(4));
        x.due(Check.INDEX, x.found(0, 0));
        x.due(Check.INDEX, x.found(0, 1));
    }

    @Says(where = "Promise 1", words = "No text; editions without rows.")
    static void newObjectHasNothingOfAnother() {
        Goods x = Goods.of("01a;02b;").search("a").type("01");
        x.due(1, x.note(101, 0, 102));
        Goods y = new Goods();
        for (int what : new int[] {0, 1, 2, 3, 4, 10, 11, 12, 20, 21, 22}) {
            y.due(0, y.count(what));
        }
        y.type("0");
        x.due(2, x.count(0));
        x.due(2, x.count(10));
        x.due(1, x.count(2));
        x.due(1, x.count(4));
    }

    @Says(where = "Terms, THE TEXT", words = "THE TEXT (400 signs at most)")
    static void textTakesFourHundredSigns() {
        Goods x = new Goods();
        for (int i = 0; i < 400; i++) {
            x.due(true, x.sign("-0a.;".charAt(i % 5)));
        }
        x.due(400, x.count(0));
    }

    @Says(where = "Promise 2", words = "or there are 400.")
    static void signIsRefusedWhenThereAreFourHundred() {
        Goods x = full('a');
        for (char c : "aZ09-.;".toCharArray()) {
            x.due(false, x.sign(c));
        }
        x.due(400, x.count(0));
    }

    @Says(where = "Promise 2", words = "A sign comes to the text: true;")
    static void fourHundredthSignIsTaken() {
        Goods x = new Goods().type("a".repeat(399));
        x.due(399, x.count(0));
        x.due(true, x.sign(';'));
        x.due(400, x.count(0));
    }

    @Says(where = "Terms, THE TEXT", words = "THE TEXT (400 signs at most)")
    static void fullTextIsReadWhole() {
        StringBuilder text = new StringBuilder();
        for (int i = 0; i < 40; i++) {
            text.append((char) ('0' + i / 10)).append((char) ('0' + i % 10)).append("abcdefg;");
        }
        Goods x = new Goods().type(text.toString());
        x.due(400, x.count(0));
        x.due(40, x.read());
        x.due(139, x.row(39, 0));
        x.due(true, x.sign('a'));
    }

    @Says(where = "Terms, FAILURES", words = "or the length, if the text ends too early")
    static void fullTextEndsTooEarlyAtFourHundred() {
        StringBuilder text = new StringBuilder();
        for (int i = 0; i < 40; i++) {
            text.append((char) ('0' + i / 10)).append((char) ('0' + i % 10)).append("abcdefg;");
        }
        Goods x = new Goods().type(text.substring(0, 399) + "h");
        x.due(Check.STATE, x.read());
        x.due(1, x.failure(0));
        x.due(400, x.failure(1));
    }

    @Says(where = "Terms, THE TEXT", words = "- digits, letters (large ones are the small ones), . and ; alone.")
    static void signsThatCanBe() {
        for (char c : "-.;0123456789abcdefghijklmnopqrstuvwxyzABCDEFGHIJKLMNOPQRSTUVWXYZ".toCharArray()) {
            Goods x = new Goods();
            x.due(true, x.sign(c));
            x.due(1, x.count(0));
        }
    }

    @Says(where = "Promise 2", words = "false if it can't be,")
    static void signsThatCanNotBe() {
        String none = "\0\t\n !\"#$%&'()*+,/:<=>?@[\\]^_`{|}~\u007f\u0080\u00aa\u00ad\u00e4\u00ff\u0130\uff10";
        for (char c : none.toCharArray()) {
            Goods x = new Goods().type("a");
            x.due(false, x.sign(c));
            x.due(1, x.count(0));
        }
    }

    @Says(where = "Promise 2", words = "false if it can't be,")
    static void signsFarOffCanNotBe() {
        for (int far : new int[] {-1, 128 + 'a', 256 + 'a', 256 + '0', 65536 + 'a', 65536 + '-', 'a' - 256,
            'a' - 65536, -'a', -'0', MIN, MIN + 'a', MAX}) {
            Goods x = new Goods();
            x.due(false, x.sign(far));
            x.due(0, x.count(0));
        }
    }

    @Says(where = "Terms, THE TEXT", words = "letters (large ones are the small ones)")
    static void largeLettersAreSmallOnesInRows() {
        Goods x = Goods.of("01AmZ;02amz;").search("amz");
        x.due(2, x.count(4));
        x.due(101, x.found(0, 0));
    }

    @Says(where = "Terms, THE TEXT", words = "letters (large ones are the small ones)")
    static void largeLettersAreSmallOnesInSearch() {
        Goods x = Goods.of("01amz;02b;").search("AMZ.aMz");
        x.due(1, x.count(4));
        x.due(8, x.found(0, 1));
    }

    @Says(where = "Promise 4", words = "(0 if none)")
    static void noFailureOfANewObject() {
        Goods x = new Goods();
        x.due(0, x.failure(0));
        x.due(-1, x.failure(1));
    }

    @Says(where = "Promise 4", words = "Of the latest read() or search(): which 0: the FAILURE (0 if none)")
    static void noFailureBehindARightReading() {
        Goods x = new Goods().type("01");
        x.due(Check.STATE, x.read());
        x.type("01a;").read();
        x.due(0, x.failure(0));
        x.due(-1, x.failure(1));
    }

    @Says(where = "Promise 4", words = "1: its place (NONE if none).")
    static void noPlaceBehindARightSearch() {
        Goods x = new Goods().type("a.");
        x.due(Check.STATE, x.search());
        x.type("a").search();
        x.due(0, x.failure(0));
        x.due(-1, x.failure(1));
    }

    @Says(where = "Promise 4", words = "Of the latest read() or search()")
    static void failureIsThatOfTheLatest() {
        Goods x = new Goods().type("02a;01a;");
        x.due(Check.STATE, x.read());
        x.due(4, x.failure(0));
        x.due(4, x.failure(1));
        x.type("abc;");
        x.due(Check.STATE, x.search());
        x.due(1, x.failure(0));
        x.due(3, x.failure(1));
        x.type("-01a;");
        x.due(Check.STATE, x.read());
        x.due(2, x.failure(0));
        x.due(0, x.failure(1));
    }

    @Says(where = "Promise 4", words = "Of the latest read() or search()")
    static void failureStaysBehindOtherCalls() {
        Goods x = new Goods().type("01a;--");
        x.due(Check.STATE, x.read());
        x.type("ab").go(1).go(2);
        x.row(0, 0);
        x.note(101, 0, 102);
        x.found(0, 0);
        x.due(2, x.failure(0));
        x.due(4, x.failure(1));
    }

    @Says(where = "Promise 4", words = "NONE for another which.")
    static void noFailureOfAnotherWhich() {
        Goods x = new Goods().type("-");
        x.due(Check.STATE, x.read());
        for (int which : new int[] {-1, 2, 3, 10, MIN, MAX}) {
            x.due(-1, x.failure(which));
        }
    }

    @Says(where = "Terms, the end", words = "Reading and searching use up the text, also when they fail;")
    static void rightReadingUsesUpTheText() {
        Goods x = new Goods().type("01a;");
        x.due(1, x.read());
        x.due(0, x.count(0));
        x.due(Check.STATE, x.read());
        x.due(0, x.failure(1));
    }

    @Says(where = "Terms, the end", words = "Reading and searching use up the text, also when they fail;")
    static void failedReadingUsesUpTheText() {
        for (String text : new String[] {"01a", "-01a;", "0101a;", "02a;01a;", "abc"}) {
            Goods x = new Goods().type(text);
            x.due(Check.STATE, x.read());
            x.due(0, x.count(0));
            x.type("03b;");
            x.due(1, x.read());
        }
    }

    @Says(where = "Terms, the end", words = "Reading and searching use up the text, also when they fail;")
    static void rightSearchUsesUpTheText() {
        Goods x = Goods.of("01a;").type("a");
        x.due(1, x.search());
        x.due(0, x.count(0));
        x.due(Check.STATE, x.search());
        x.due(0, x.failure(1));
    }

    @Says(where = "Terms, the end", words = "Reading and searching use up the text, also when they fail;")
    static void failedSearchUsesUpTheText() {
        Goods x = Goods.of("01a;").type("a;");
        x.due(Check.STATE, x.search());
        x.due(0, x.count(0));
        x.type("a");
        x.due(1, x.search());
    }
}
