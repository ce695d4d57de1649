/** The boundary cases of a row, of the tree that rows make, and of each failure of a reading. */
public final class ReadBoundariesTest {
    private static final String CHAIN = "01a;-0101a;--010101a;---01010101a;----0101010101a;";

    private ReadBoundariesTest() {
    }

    public static void main(String[] args) {
        Sentences.run(ReadBoundariesTest.class);
    }

    private static Goods reads(String text, int rows) {
        Goods x = new Goods().type(text);
        x.due(text + " " + rows, text + " " + x.read());
        x.due(text + " 0", text + " " + x.failure(0));
        return x;
    }

    private static void fails(String text, int kind, int place) {
        Goods x = new Goods().type(text);
        x.due(text + " " + Check.STATE, text + " " + x.read());
        x.due(text + " " + kind, text + " " + x.failure(0));
        x.due(text + " " + place, text + " " + x.failure(1));
        x.due(text + " 0", text + " " + x.count(10));
    }

    /** So many rows of four signs, the codes 00, 01 and so on. */
    private static String chapters(int many) {
        StringBuilder text = new StringBuilder();
        for (int i = 0; i < many; i++) {
            text.append((char) ('0' + i / 10)).append((char) ('0' + i % 10)).append("a;");
        }
        return text.toString();
    }

    @Says(where = "Promise 3", words = "READ: how many rows.")
    static void fewestAndMostRows() {
        reads("00a;", 1);
        reads("99a;", 1);
        reads(chapters(2), 2);
        reads(chapters(40), 40);
    }

    @Says(where = "Promise 3", words = "IllegalStateException if it fails.")
    static void eachFailureThrows() {
        fails("a", 1, 0);
        fails("-01a;", 2, 0);
        fails("0101a;", 3, 0);
        fails("02a;01a;", 4, 4);
        fails(chapters(41), 5, 160);
    }

    @Says(where = "Terms, A ROW", words = "DASHES (0 to 4)")
    static void noDashAndFourDashes() {
        Goods x = reads(CHAIN, 5);
        for (int i = 0; i < 5; i++) {
            x.due(i, x.row(i, 1));
        }
    }

    @Says(where = "Terms, A ROW", words = "a CODE of 2, 4, 6, 8 or 10 digits")
    static void codesOfEachLength() {
        reads("01a;", 1);
        reads("01a;-0102a;", 2);
        reads("01a;-010203a;", 2);
        reads("01a;-01020304a;", 2);
        reads("01a;-0102030405a;", 2);
    }

    @Says(where = "Terms, A ROW", words = "a CODE of 2, 4, 6, 8 or 10 digits")
    static void codeOfNoDigit() {
        fails("a;", 1, 0);
        fails("01a;-a;", 1, 5);
        fails("01a;-.a;", 1, 5);
        fails("01a;-;", 1, 5);
        fails("01a;-0101a;--a;", 1, 13);
    }

    @Says(where = "Terms, A ROW", words = "1 to 4 WORDS")
    static void oneAndFourWords() {
        Goods x = reads("01a;02a.b;03a.b.c;04a.b.c.d;", 4);
        for (int i = 0; i < 4; i++) {
            x.due(i + 1, x.row(i, 2));
        }
    }

    @Says(where = "Terms, A ROW", words = "1 to 4 WORDS")
    static void noWord() {
        fails("01;", 1, 2);
        fails("01.a;", 1, 2);
        fails("01a;-0101;", 1, 9);
        fails("01a;-0101010101;", 1, 15);
    }

    @Says(where = "Terms, A ROW", words = "of 1 to 8 letters")
    static void wordsOfOneAndEightLetters() {
        Goods x = reads("01a.abcdefgh.z.zzzzzzzz;", 1);
        x.due(4, x.row(0, 2));
    }

    @Says(where = "Terms, A ROW", words = "of 1 to 8 letters")
    static void wordOfNoLetter() {
        fails("01.;", 1, 2);
        fails("01a.;", 1, 4);
        fails("01a..b;", 1, 4);
        fails("01a.b.;", 1, 6);
        fails("01a.b.c.;", 1, 8);
    }

    @Says(where = "Terms, A ROW", words = "with a . between any two")
    static void oneDotBetweenTwoWords() {
        Goods x = reads("01abcd.efgh;", 1);
        x.due(2, x.row(0, 2));
        fails("01.a;", 1, 2);
        fails("01a..b;", 1, 4);
        fails("01a.b.;", 1, 6);
        fails("01a-b;", 1, 3);
        fails("01a;b;", 1, 4);
    }

    @Says(where = "Terms, A ROW", words = "a ; at its end.")
    static void oneSemicolonAtTheEnd() {
        fails("01a", 1, 3);
        fails("01a;;", 1, 4);
        fails("01a02b;", 1, 3);
        fails("01a;02b", 1, 7);
        fails(";01a;", 1, 0);
    }

    @Says(where = "Terms, A CODE", words = "its digits with a 1 ahead of them (01 is 101, 0101 is 10101).")
    static void leastAndGreatestCodes() {
        Goods x = reads("00a;-0000a;--0000000000a;01a;-0101a;99a;-9999999999a;", 7);
        x.due(100, x.row(0, 0));
        x.due(10000, x.row(1, 0));
        x.due(10000000000L, x.row(2, 0));
        x.due(101, x.row(3, 0));
        x.due(10101, x.row(4, 0));
        x.due(199, x.row(5, 0));
        x.due(19999999999L, x.row(6, 0));
    }

    @Says(where = "Terms, READ", words = "in place of what it had")
    static void fewerRowsInPlaceOfMore() {
        Goods x = Goods.of("01a;-0101b;02c;").rows("05a;");
        x.due(1, x.count(10));
        x.due(1, x.count(20));
        x.due(105, x.row(0, 0));
        x.due(0, x.row(0, 4));
        x.due(Check.INDEX, x.row(1, 0));
        x.due(-1, x.find(101));
    }

    @Says(where = "Terms, READ", words = "in place of what it had")
    static void nothingStaysOfSeveralReadings() {
        Goods x = new Goods();
        for (int i = 0; i < 4; i++) {
            x.rows("01a.b;-0101b;-0102c;02d;").rows("05a;-0501a.b;");
            x.type("01a;-0101a;02a;03a;-");
            x.due(Check.STATE, x.read());
            x.rows("06a;");
            x.due(1, x.count(10));
            x.due(1, x.count(20));
            x.due(0, x.row(0, 4));
            x.due(1, x.row(0, 2));
            x.due(0, x.row(0, 3));
        }
    }

    @Says(where = "Terms, READ", words = "if all is right.")
    static void failedReadingLeavesTheRows() {
        for (String text : new String[] {"", "05a;06", "05a;--", "05a;0601a;", "05a;04a;"}) {
            Goods x = Goods.of("01a;-0101b;02c;").type(text);
            String held = x.heldState();
            x.due(Check.STATE, x.read());
            x.due(held, x.heldState());
        }
    }

    @Says(where = "Terms, READ", words = "if all is right.")
    static void fortyOneRowsLeaveTheRows() {
        Goods x = Goods.of("01a;-0101b;02c;").type(chapters(41));
        String held = x.heldState();
        x.due(Check.STATE, x.read());
        x.due(held, x.heldState());
    }

    @Says(where = "Terms, READ", words = "A row is BELOW the latest one ahead of it with one dash less;")
    static void belowTheLatestAhead() {
        Goods x = reads("01a;-0101a;--010101a;-0102a;--010201a;--010202a;02a;-0201a;", 8);
        long[] above = {0, 101, 10101, 101, 10102, 10102, 0, 102};
        int[] below = {2, 1, 0, 2, 0, 0, 1, 0};
        for (int i = 0; i < above.length; i++) {
            x.due(above[i], x.row(i, 3));
            x.due(below[i], x.row(i, 4));
        }
    }

    @Says(where = "Terms, READ", words = "one without dashes is a CHAPTER.")
    static void chaptersAreRowsWithoutDashes() {
        Goods x = reads("01a;-0101a;--010101a;02a;03a;-0301a;", 6);
        x.due(3, x.count(20));
        x.due(0, x.row(3, 3));
        x.due(0, x.row(4, 1));
    }

    @Says(where = "Terms, FAILURES", words = "of which the one at the first place counts")
    static void firstPlaceCountsWithinARow() {
        // the dashes ahead of a sign, of a code and of the end
        fails("-a", 2, 0);
        fails("01a;--02abcdefghi;", 2, 4);
        fails("01a;--", 2, 4);
        // the code ahead of what stands behind it
        fails("0101;", 3, 0);
        fails("0101", 3, 0);
        fails("02a;01;", 4, 4);
        fails("02a;01abcdefghi;", 4, 4);
        // the 41st row ahead of what stands in it
        fails(chapters(40) + "40;", 5, 160);
        fails(chapters(40) + "4", 5, 160);
        fails(chapters(40) + "-3", 5, 160);
        fails(chapters(40) + "-40a;", 5, 160);
    }

    @Says(where = "Terms, FAILURES", words = "of which the one at the first place counts")
    static void firstPlaceCountsAmongRows() {
        fails("01;-----", 1, 2);
        fails("01a;--0101a;0", 2, 4);
        fails("01a;0201a;-", 3, 4);
        fails("02a;01a;---", 4, 4);
        fails(chapters(41) + "-a", 5, 160);
        fails(chapters(39) + "39;40a;", 1, 158);
    }

    @Says(where = "Terms, FAILURES", words = "(of one place the less number")
    static void oneAheadOfFive() {
        fails(chapters(40) + ";", 1, 160);
        fails(chapters(40) + ".", 1, 160);
        fails(chapters(40) + "a", 1, 160);
    }

    @Says(where = "Terms, FAILURES", words = "(of one place the less number")
    static void twoAheadOfFive() {
        fails(chapters(40) + "--", 2, 160);
        fails(chapters(40) + "--3901a;", 2, 160);
    }

    @Says(where = "Terms, FAILURES", words = "(of one place the less number")
    static void threeAheadOfFour() {
        fails("02a;0101a;", 3, 4);
        fails("02a;-01a;", 3, 5);
        fails("02a;-02a;", 3, 5);
        fails("02a;-0202a;-0101a;", 3, 12);
    }

    @Says(where = "Terms, FAILURES", words = "but 5 ahead of 3 and 4)")
    static void fiveAheadOfThree() {
        fails(chapters(40) + "4001a;", 5, 160);
    }

    @Says(where = "Terms, FAILURES", words = "but 5 ahead of 3 and 4)")
    static void fiveAheadOfFour() {
        fails(chapters(40) + "39a;", 5, 160);
        fails(chapters(40) + "00a;", 5, 160);
        fails(chapters(40) + "0001a;", 5, 160);
    }

    @Says(where = "Terms, FAILURES", words = "1 a sign that can't stand where it does")
    static void signsAtTheBeginningOfARow() {
        for (String sign : new String[] {"a", "z", ".", ";"}) {
            fails(sign, 1, 0);
            fails(sign + "01a;", 1, 0);
            fails("01a;" + sign, 1, 4);
            fails("01a;" + sign + "02a;", 1, 4);
        }
    }

    @Says(where = "Terms, FAILURES", words = "1 a sign that can't stand where it does")
    static void signsBehindADash() {
        for (String sign : new String[] {"a", "z", ".", ";"}) {
            fails("01a;-" + sign + "0101a;", 1, 5);
        }
    }

    @Says(where = "Terms, FAILURES", words = "1 a sign that can't stand where it does")
    static void signsBehindACode() {
        for (String sign : new String[] {"-", ".", ";"}) {
            fails("01" + sign + "a;", 1, 2);
            fails("01a;-0101010101" + sign + "a;", 1, 15);
        }
    }

    @Says(where = "Terms, FAILURES", words = "1 a sign that can't stand where it does")
    static void signsBehindAWord() {
        for (String sign : new String[] {"-", "0", "9"}) {
            fails("01a" + sign + ";", 1, 3);
            fails("01abcdefgh" + sign + ";", 1, 10);
            fails("01a.b.c.d" + sign + ";", 1, 9);
        }
    }

    @Says(where = "Terms, FAILURES", words = "1 a sign that can't stand where it does")
    static void signsBehindADot() {
        for (String sign : new String[] {"-", "0", "9", ".", ";"}) {
            fails("01a." + sign + "b;", 1, 4);
            fails("01a.b.c." + sign + "d;", 1, 8);
        }
    }

    @Says(where = "Terms, FAILURES", words = "of a code with an odd number of digits the sign behind it")
    static void codesOfAnOddNumber() {
        fails("0a;", 1, 1);
        fails("012a;", 1, 3);
        fails("01234a;", 1, 5);
        fails("0123456a;", 1, 7);
        fails("012345678a;", 1, 9);
        fails("012;", 1, 3);
        fails("012.", 1, 3);
        fails("012-", 1, 3);
        fails("01a;-010a;", 1, 8);
    }

    @Says(where = "Terms, FAILURES", words = "of one with more than ten the eleventh digit")
    static void codesOfMoreThanTen() {
        fails("01234567890a;", 1, 10);
        fails("012345678901a;", 1, 10);
        fails("0123456789012345678901234567890;", 1, 10);
        fails("01a;-01010101010a;", 1, 15);
        fails("01a;-010101010101a;", 1, 15);
    }

    @Says(where = "Terms, FAILURES", words = "of a word with more than eight letters the ninth")
    static void wordsOfNineLetters() {
        fails("01abcdefghi;", 1, 10);
        fails("01abcdefghi", 1, 10);
        fails("01abcdefghijklmnopqrstuvwxyz;", 1, 10);
        fails("01a.abcdefghi;", 1, 12);
        fails("01a.b.c.abcdefghi;", 1, 16);
    }

    @Says(where = "Terms, FAILURES", words = "a fifth dash")
    static void fifthDash() {
        fails(CHAIN + "-----", 1, 54);
        fails(CHAIN + "-----0101010102a;", 1, 54);
        fails(CHAIN + "-----a", 1, 54);
    }

    @Says(where = "Terms, FAILURES", words = "the . behind a fourth word")
    static void dotBehindAFourthWord() {
        fails("01a.b.c.d.e;", 1, 9);
        fails("01a.b.c.d.;", 1, 9);
        fails("01a.b.c.d.", 1, 9);
        fails("01a.b.c.abcdefgh.e;", 1, 16);
    }

    @Says(where = "Terms, FAILURES", words = "or the length, if the text ends too early")
    static void textEndsTooEarly() {
        fails("0", 1, 1);
        fails("01", 1, 2);
        fails("012", 1, 3);
        fails("01a", 1, 3);
        fails("01abcdefgh", 1, 10);
        fails("01a.", 1, 4);
        fails("01a.b.c.d", 1, 9);
        fails("01a;-", 1, 5);
        fails("01a;-0", 1, 6);
        fails("01a;-0101010101", 1, 15);
        fails("01a;-010101010", 1, 14);
        fails(CHAIN + "----", 1, 54);
    }

    @Says(where = "Terms, FAILURES", words = "(also an empty one)")
    static void emptyText() {
        fails("", 1, 0);
        Goods x = Goods.of("01a;");
        x.due(Check.STATE, x.read());
        x.due(1, x.failure(0));
        x.due(0, x.failure(1));
        x.due(1, x.count(10));
    }

    @Says(where = "Terms, FAILURES", words = "or the length, if the text ends too early")
    static void signsOfAnEarlierTextAreNone() {
        Goods x = Goods.of("01a;-0101a;").type("01a");
        x.due(Check.STATE, x.read());
        x.due(3, x.failure(1));
        x.type("01a;-0101a;--").read();
        x.type("01a;-0101a;-");
        x.due(Check.STATE, x.read());
        x.due(1, x.failure(0));
        x.due(12, x.failure(1));
    }

    @Says(where = "Terms, FAILURES", words = "2 more dashes than the row ahead and one")
    static void moreDashesThanOneMore() {
        fails("01a;--010101a;", 2, 4);
        fails("01a;---010101a;", 2, 4);
        fails("01a;----010101a;", 2, 4);
        fails("01a;-0101a;---01010101a;", 2, 11);
        fails("01a;-0101a;----01010101a;", 2, 11);
        fails("01a;-0101a;--010101a;----01010101a;", 2, 21);
    }

    @Says(where = "Terms, FAILURES", words = "2 more dashes than the row ahead and one")
    static void asManyDashesAsTheRowAheadAndOne() {
        reads(CHAIN, 5);
        reads("01a;-0101a;-0102a;--010201a;--010202a;", 5);
        reads(CHAIN + "02a;-0201a;", 7);
        reads(CHAIN + "----0101010102a;", 6);
    }

    @Says(where = "Terms, FAILURES", words = "2 more dashes than the row ahead and one")
    static void moreDashesThanARowMayHaveAtAll() {
        // The fifth dash can't stand either, but the row's first sign is the first place.
        fails("01a;-0101a;--010101a;---01010101a;-----0101010101a;", 2, 34);
        fails(CHAIN + "------0101010102a;", 2, 50);
        fails(CHAIN + "------", 2, 50);
    }

    @Says(where = "Terms, FAILURES", words = "2 more dashes than the row ahead and one")
    static void itIsTheRowAheadThatCounts() {
        fails("01a;-0101a;02a;--0201a;", 2, 15);
        fails(CHAIN + "-0102a;---01020101a;", 2, 57);
    }

    @Says(where = "Terms, FAILURES", words = "at the row's first sign; 3")
    static void twoIsAtTheFirstSign() {
        fails("01a;---0101a;", 2, 4);
        fails("01a;-0101a;----01010101a;", 2, 11);
        fails("01a;02a;03a;--0301a;", 2, 12);
    }

    @Says(where = "Terms, FAILURES", words = "(the first row: any)")
    static void dashesOfTheFirstRow() {
        for (int dashes = 1; dashes <= 6; dashes++) {
            fails("-".repeat(dashes) + "01a;", 2, 0);
            fails("-".repeat(dashes), 2, 0);
        }
    }

    @Says(where = "Terms, FAILURES", words = "3 a CHAPTER of more than 2 digits")
    static void longChapters() {
        fails("0101a;", 3, 0);
        fails("010101a;", 3, 0);
        fails("01010101a;", 3, 0);
        fails("0101010101a;", 3, 0);
        fails("0000a;", 3, 0);
        fails("01a;0201a;", 3, 4);
        fails("01a;0101a;", 3, 4);
    }

    @Says(where = "Terms, FAILURES", words = "or a code that does not begin with that of the row which it is BELOW")
    static void codesThatDoNotBeginSo() {
        fails("01a;-0201a;", 3, 5);
        fails("01a;-1101a;", 3, 5);
        fails("01a;-0101a;--010201a;", 3, 13);
        fails("01a;-0101a;-0102a;--010103a;", 3, 20);
        fails("01a;-0101a;--010101a;---01010201a;", 3, 24);
        fails("01a;-0101010101a;-0201010101a;", 3, 18);
    }

    @Says(where = "Terms, FAILURES", words = "or is not longer")
    static void codesThatAreNotLonger() {
        fails("01a;-01a;", 3, 5);
        fails("01a;-0101a;--0101a;", 3, 13);
        fails("01a;-0101010101a;--0101010101a;", 3, 19);
        fails("01a;-0101a;--01a;", 3, 13);
        fails("01a;-0101a;--02a;", 3, 13);
    }

    @Says(where = "Terms, FAILURES", words = "or is not longer, at its first digit")
    static void threeIsAtTheFirstDigit() {
        fails("01a;-0101a;--010101a;---01010101a;----0102010101a;", 3, 38);
        fails("01a;-02a;", 3, 5);
        fails("01a;02a;0301a;", 3, 8);
    }

    @Says(where = "Terms, FAILURES", words = "4 a code that does not come behind that of the row ahead")
    static void codesThatDoNotComeBehind() {
        fails("02a;01a;", 4, 4);
        fails("10a;09a;", 4, 4);
        fails("02a;-0202a;-0201a;", 4, 12);
        fails("01a;-0101a;--010102a;--010101a;", 4, 23);
        fails("01a;-0102a;--010201a;-0101a;", 4, 22);
        reads("01a;-0102a;--010299a;-0103a;02a;", 5);
    }

    @Says(where = "Terms, FAILURES", words = "comes behind it), at its first digit")
    static void fourIsAtTheFirstDigit() {
        fails("02a;03a;01a;", 4, 8);
        fails("02a;-0202a;-0201a;", 4, 12);
        fails(CHAIN.replace("0101010101a", "0101010102a") + "----0101010101a;", 4, 54);
    }

    @Says(where = "Terms, FAILURES", words = "4 a code that does not come behind that of the row ahead")
    static void sameCodeDoesNotComeBehind() {
        fails("02a;02a;", 4, 4);
        fails("02a;-0202a;-0202a;", 4, 12);
        fails("00a;00a;", 4, 4);
        fails("01a;-0101010101a;-0101010101a;", 4, 18);
    }

    @Says(where = "Terms, FAILURES", words = "(compared digit by digit;")
    static void codesAreComparedDigitByDigit() {
        reads("01a;-0101999999a;-0102a;", 3);
        reads("01a;-010199a;-0102a;02a;", 4);
        fails("01a;-0102a;-01019999a;", 4, 12);
        fails("01a;-0102a;-0101999999a;", 4, 12);
        fails("01a;-0101999999a;01a;", 4, 17);
    }

    @Says(where = "Terms, FAILURES", words = "one that begins with the other one comes behind it)")
    static void longerOneComesBehindItsBeginning() {
        reads("01a;-0100a;-010000a;-01000000a;-0100000000a;", 5);
        reads("01a;-0101a;-010101a;", 3);
        fails("01a;-010101a;-0101a;", 4, 14);
        fails("01a;-010000a;-0100a;", 4, 14);
        fails("01a;-0100000000a;-01000000a;", 4, 18);
    }

    @Says(where = "Terms, FAILURES", words = "(3 and 4 of codes with an even number of digits, ten at most, alone)")
    static void oddCodesAreNoThreeAndNoFour() {
        fails("010a;", 1, 3);
        fails("02a;010a;", 1, 7);
        fails("02a;0a;", 1, 5);
        fails("02a;-0a;", 1, 6);
        fails("02a;-010a;", 1, 8);
        fails("02a;-010203040a;", 1, 14);
    }

    @Says(where = "Terms, FAILURES", words = "(3 and 4 of codes with an even number of digits, ten at most, alone)")
    static void tooLongCodesAreNoThreeAndNoFour() {
        fails("010203040506a;", 1, 10);
        fails("02a;010203040506a;", 1, 14);
        fails("02a;-01020304050a;", 1, 15);
        fails("02a;-010203040506a;", 1, 15);
        fails("02a;-0102030405a;", 3, 5);
    }

    @Says(where = "Terms, FAILURES", words = "5 the 41st row, at its first sign.")
    static void fortyFirstRow() {
        reads(chapters(40), 40);
        fails(chapters(41), 5, 160);
        fails(chapters(42), 5, 160);
        fails(chapters(40) + "-3901a;", 5, 160);
        fails(chapters(40) + "-", 5, 160);
        reads(chapters(39) + "-3801a;", 40);
        fails(chapters(39) + "-3801a;--380101a;", 5, 163);
    }
}
