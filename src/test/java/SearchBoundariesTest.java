/** The boundary cases of a search, of its points, and of what it found. */
public final class SearchBoundariesTest {
    private static final int MIN = Integer.MIN_VALUE;
    private static final int MAX = Integer.MAX_VALUE;
    private static final String CHAIN = "01a;-0101b;--010101c;---01010101d;----0101010101e;";

    private SearchBoundariesTest() {
    }

    public static void main(String[] args) {
        Sentences.run(SearchBoundariesTest.class);
    }

    /** What is found, as codes and points in turn. */
    private static void finds(Goods x, String asked, long... codesAndPoints) {
        int many = codesAndPoints.length / 2;
        x.type(asked);
        x.due(asked + " " + many, asked + " " + x.search());
        x.due(asked + " " + many, asked + " " + x.count(4));
        for (int k = 0; k < codesAndPoints.length; k++) {
            x.due(asked + " " + codesAndPoints[k], asked + " " + x.found(k / 2, k % 2));
        }
        x.due(asked + " " + Check.INDEX, asked + " " + x.found(many, 0));
    }

    private static void fails(String asked, int place) {
        Goods x = Goods.of("01a.b;").type(asked);
        x.due(asked + " " + Check.STATE, asked + " " + x.search());
        x.due(asked + " 1", asked + " " + x.failure(0));
        x.due(asked + " " + place, asked + " " + x.failure(1));
    }

    @Says(where = "Terms, SEARCH", words = "the text as words (1 to 6, letters, . between any two)")
    static void oneAndSixWords() {
        Goods x = Goods.of("01a.b.c.d;02a;");
        finds(x, "a", 101, 4, 102, 4);
        finds(x, "a.b.c.d.e", 101, 16, 102, 4);
        finds(x, "a.b.c.d.e.a", 101, 20, 102, 8);
        finds(x, "x.x.x.x.x.c", 101, 4);
    }

    @Says(where = "Terms, SEARCH", words = "the text as words (1 to 6, letters, . between any two)")
    static void asManyLettersAsAWordMayHave() {
        Goods x = Goods.of("01abcdefgh;02abcdefg;");
        finds(x, "abcdefgh", 101, 4);
        finds(x, "abcdefg", 102, 4);
        finds(x, "x.x.x.x.x.abcdefgh", 101, 4);
        finds(x, "bcdefgh");
        finds(x, "a");
    }

    @Says(where = "Promise 14", words = "a sign that can't stand")
    static void searchOfSignsThatCanNotStand() {
        for (String sign : new String[] {"-", "0", "9", ";", "."}) {
            fails(sign, 0);
            fails(sign + "a", 0);
            fails("a." + sign + "b", 2);
        }
        for (String sign : new String[] {"-", "0", "9", ";"}) {
            fails("a" + sign, 1);
            fails("a.b" + sign + "c", 3);
            fails("abcdefgh" + sign, 8);
            fails("a.b.c.d.e.f" + sign, 11);
        }
    }

    @Says(where = "Promise 14", words = "the ninth letter")
    static void searchOfNineLetters() {
        fails("abcdefghi", 8);
        fails("abcdefghijkl.a", 8);
        fails("a.abcdefghi", 10);
        fails("a.b.c.d.e.abcdefghi", 18);
    }

    @Says(where = "Promise 14", words = "the . behind the sixth word")
    static void searchOfSevenWords() {
        fails("a.b.c.d.e.f.g", 11);
        fails("a.b.c.d.e.f.", 11);
        fails("a.b.c.d.e.abcdefgh.g", 18);
    }

    @Says(where = "Promise 14", words = "the length).")
    static void searchOfATextThatEndsTooEarly() {
        fails("", 0);
        fails("a.", 2);
        fails("abcdefgh.", 9);
        fails("a.b.c.d.e.", 10);
    }

    @Says(where = "Promise 14", words = "IllegalStateException if the text is no words")
    static void searchOfAnEmptyText() {
        Goods x = new Goods();
        x.due(Check.STATE, x.search());
        x.due(1, x.failure(0));
        x.due(0, x.failure(1));
        x.due(0, x.count(4));
    }

    @Says(where = "Promise 14", words = "IllegalStateException if the text is no words")
    static void searchOfAFullText() {
        Goods x = new Goods().type("ab.".repeat(133) + "a");
        x.due(400, x.count(0));
        x.due(Check.STATE, x.search());
        x.due(17, x.failure(1));
    }

    @Says(where = "Promise 14", words = "SEARCH: how many rows are FOUND.")
    static void noRowAndFortyRowsFound() {
        StringBuilder text = new StringBuilder();
        for (int i = 10; i < 50; i++) {
            text.append(i).append("a;");
        }
        Goods x = new Goods();
        finds(x, "a");
        x.rows(text.toString());
        finds(x, "b");
        x.type("a");
        x.due(40, x.search());
        x.due(110, x.found(0, 0));
        x.due(149, x.found(39, 0));
        x.due(Check.INDEX, x.found(40, 0));
    }

    @Says(where = "Terms, SEARCH", words = "of each row of the present edition")
    static void searchInThePresentEditionAlone() {
        Goods x = Goods.of("01a;", "02a;03b;", "04b;");
        finds(x, "a", 101, 4);
        finds(x, "b");
        x.go(1);
        finds(x, "a", 102, 4);
        x.go(2);
        finds(x, "a");
        finds(x, "b", 104, 4);
    }

    @Says(where = "Terms, SEARCH", words = "(each as often as it is asked)")
    static void wordsAskedSeveralTimes() {
        Goods x = Goods.of("01a;-0101b;");
        finds(x, "a.a", 101, 8, 10101, 4);
        finds(x, "a.a.a.a.a.a", 101, 24, 10101, 12);
        finds(x, "b.a.b", 10101, 10, 101, 4);
    }

    @Says(where = "Terms, SEARCH", words = "4 if the row has it")
    static void wordThatTheRowHasTwice() {
        Goods x = Goods.of("01a.a.a.a;02b.a;03b.b.b.a;");
        finds(x, "a", 101, 4, 102, 4, 103, 4);
    }

    @Says(where = "Terms, SEARCH", words = "4 if the row has it")
    static void wordsOfAnEarlierReadingAreNone() {
        Goods x = Goods.of("01a.b.c.d;-0101e;").rows("01a;-0101f.g;");
        finds(x, "b");
        finds(x, "e");
        finds(x, "g", 10101, 4);
    }

    @Says(where = "Terms, SEARCH", words = "4 if the row has it")
    static void wordsAreWholeWords() {
        Goods x = Goods.of("01ab.aab;02z.zz;03a.zzzzzzzz;");
        finds(x, "b");
        finds(x, "ba");
        finds(x, "aab", 101, 4);
        finds(x, "a", 103, 4);
        finds(x, "z", 102, 4);
        finds(x, "zzz");
        finds(x, "zzzzzzzz", 103, 4);
        finds(x, "zzzzzzza");
        finds(x, "azzzzzzz");
    }

    @Says(where = "Terms, SEARCH", words = "4 if the row has it")
    static void fourthWordOfTheFortiethRow() {
        StringBuilder text = new StringBuilder();
        for (int i = 10; i < 49; i++) {
            text.append(i).append("x;");
        }
        Goods x = Goods.of(text + "99a.b.c.d;");
        finds(x, "a", 199, 4);
        finds(x, "d", 199, 4);
    }

    @Says(where = "Terms, SEARCH", words = "else 2 if the row which it is below has it")
    static void wordThatTheRowAboveHasToo() {
        Goods x = Goods.of("01a;-0101a;--010101b;");
        finds(x, "a", 101, 4, 10101, 4, 1010101, 2);
    }

    @Says(where = "Terms, SEARCH", words = "or one above that.")
    static void wordThatAnyRowAboveHas() {
        Goods x = Goods.of(CHAIN);
        finds(x, "a", 101, 4, 10101, 2, 1010101, 2, 101010101, 2, 10101010101L, 2);
        finds(x, "d", 101010101, 4, 10101010101L, 2);
        finds(x, "e", 10101010101L, 4);
        finds(x, "a.b.c.d.e", 10101010101L, 12, 101010101, 10, 1010101, 8, 10101, 6, 101, 4);
    }

    @Says(where = "Terms, SEARCH", words = "else 2 if the row which it is below has it")
    static void wordOfARowThatIsNotAbove() {
        Goods x = Goods.of("01a;-0101b;--010101c;-0102d;02e;");
        finds(x, "b", 10101, 4, 1010101, 2);
        finds(x, "c", 1010101, 4);
        finds(x, "d", 10102, 4);
        finds(x, "a", 101, 4, 10101, 2, 1010101, 2, 10102, 2);
    }

    @Says(where = "Terms, SEARCH", words = "LEFT OUT by a note of a code above it")
    static void leftOutByAnyRowAbove() {
        long[] above = {101, 10101, 1010101, 101010101};
        for (long code : above) {
            Goods x = Goods.of(CHAIN);
            x.due(1, x.note(code, 1, 10101010101L));
            finds(x, "e", 10101010101L, 2);
        }
    }

    @Says(where = "Terms, SEARCH", words = "LEFT OUT by a note of a code above it")
    static void notLeftOutByANoteOfKindZero() {
        Goods x = Goods.of(CHAIN);
        x.due(1, x.note(10101, 0, 1010101));
        finds(x, "c.d", 101010101, 6, 1010101, 4, 10101010101L, 4);
    }

    @Says(where = "Terms, SEARCH", words = "LEFT OUT by a note of a code above it")
    static void notLeftOutByARowThatIsNotAbove() {
        Goods x = Goods.of("01a;-0101b;--010101c;-0102d;02e;");
        // one beside it, one of another chapter, one below it
        x.due(1, x.note(10102, 1, 10101));
        x.due(2, x.note(102, 1, 10101));
        x.due(3, x.note(1010101, 1, 10101));
        x.due(4, x.note(10101, 1, 10102));
        finds(x, "b", 10101, 4, 1010101, 2);
        finds(x, "d", 10102, 4);
    }

    @Says(where = "Terms, SEARCH", words = "A row whose code is LEFT OUT")
    static void rowsBelowALeftOutRowAreNotLeftOut() {
        Goods x = Goods.of(CHAIN);
        x.due(1, x.note(101, 1, 10101));
        finds(x, "b", 10101, 2, 1010101, 2, 101010101, 2, 10101010101L, 2);
        finds(x, "c", 1010101, 4, 101010101, 2, 10101010101L, 2);
    }

    @Says(where = "Terms, SEARCH", words = "LEFT OUT by a note of a code above it")
    static void leftOutByANoteOfThisEditionAlone() {
        Goods x = Goods.of("01a;-0101b;", "01a;-0101b;", "01a;-0101b;").go(1);
        x.due(1, x.note(101, 1, 10101));
        finds(x, "b", 10101, 2);
        x.go(0);
        finds(x, "b", 10101, 4);
        x.go(1).rows("01a;-0101b;");
        finds(x, "b", 10101, 4);
    }

    @Says(where = "Terms, SEARCH", words = "has half of them, rounded down.")
    static void leastAndGreatestHalf() {
        Goods x = Goods.of("01a;-0101b;");
        x.due(1, x.note(101, 1, 10101));
        finds(x, "a", 101, 4, 10101, 1);
        finds(x, "b.b.b.b.b.b", 10101, 12);
        finds(x, "a.b", 101, 4, 10101, 3);
        finds(x, "x");
    }

    @Says(where = "Terms, SEARCH", words = "has half of them, rounded down.")
    static void halfOnceForSeveralNotes() {
        Goods x = Goods.of("01a;-0101b;--010101c;");
        x.due(1, x.note(101, 1, 1010101));
        x.due(2, x.note(10101, 1, 1010101));
        finds(x, "c.c", 1010101, 4);
    }

    @Says(where = "Terms, SEARCH", words = "FOUND are rows with points")
    static void rowsWithoutPointsAreNotFound() {
        Goods x = Goods.of("01a;02b;03c;");
        finds(x, "b", 102, 4);
        finds(x, "d");
        finds(x, "d.c", 103, 4);
    }

    @Says(where = "Terms, SEARCH", words = "the greatest points ahead, of equal ones the row ahead.")
    static void orderOfRowsFound() {
        Goods x = Goods.of("01a;02a.b;03b;04a.b.c;05a.b;06c;");
        finds(x, "a.b.c", 104, 12, 102, 8, 105, 8, 101, 4, 103, 4, 106, 4);
        finds(x, "c.b", 104, 8, 102, 4, 103, 4, 105, 4, 106, 4);
    }

    @Says(where = "Promise 15", words = "Of the i-th FOUND by the latest search that did not fail")
    static void foundByTheLatestThatDidNotFail() {
        Goods x = Goods.of("01a;02b;");
        finds(x, "a", 101, 4);
        x.type("b.");
        x.due(Check.STATE, x.search());
        x.due(101, x.found(0, 0));
        x.due(4, x.found(0, 1));
        finds(x, "b.b", 102, 8);
        finds(x, "c");
    }

    @Says(where = "Promise 15", words = "Of the i-th FOUND by the latest search that did not fail")
    static void foundStaysBehindReadingsAndEditions() {
        Goods x = Goods.of("01a;02a.b;");
        finds(x, "a.b", 102, 8, 101, 4);
        x.rows("07a;").go(1);
        x.due(102, x.found(0, 0));
        x.due(8, x.found(0, 1));
        x.due(101, x.found(1, 0));
        x.due(Check.INDEX, x.found(2, 0));
    }

    @Says(where = "Promise 15", words = "what 0: CODE, 1: POINTS.")
    static void codeAndPointsOfFound() {
        Goods x = Goods.of("00a;-0000000000b;99b.a;-9999999999a;").search("b.a.b.a.b.a");
        x.due(199, x.found(0, 0));
        x.due(24, x.found(0, 1));
        x.due(10000000000L, x.found(1, 0));
        x.due(18, x.found(1, 1));
        x.due(19999999999L, x.found(2, 0));
        x.due(18, x.found(2, 1));
        x.due(100, x.found(3, 0));
        x.due(12, x.found(3, 1));
    }

    @Says(where = "Promise 15", words = "IndexOutOfBoundsException if there is none such")
    static void noSuchFound() {
        Goods x = new Goods();
        x.due(Check.INDEX, x.found(0, 0));
        x.rows("01a;02a;03b;").search("a");
        for (int i : new int[] {-1, 2, 3, 39, 40, 41, MIN, MAX}) {
            x.due(Check.INDEX, x.found(i, 0));
            x.due(Check.INDEX, x.found(i, 1));
        }
        x.search("x");
        x.due(Check.INDEX, x.found(0, 0));
    }

    @Says(where = "Promise 15", words = "or no such what.")
    static void noSuchWhatOfFound() {
        Goods x = Goods.of("01a;02a;").search("a");
        for (int what : new int[] {-1, 2, 3, MIN, MAX}) {
            x.due(Check.INDEX, x.found(0, what));
            x.due(Check.INDEX, x.found(1, what));
            x.due(Check.INDEX, x.found(2, what));
        }
    }

    @Says(where = "Promise 16", words = "4: FOUND by the latest search;")
    static void countOfFound() {
        Goods x = Goods.of("01a;02a.b;");
        x.due(0, x.count(4));
        x.search("a");
        x.due(2, x.count(4));
        x.search("b");
        x.due(1, x.count(4));
        x.search("c");
        x.due(0, x.count(4));
    }
}
