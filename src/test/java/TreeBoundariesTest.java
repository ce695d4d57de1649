/** The boundary cases of editions, rows, found codes and counts. */
public final class TreeBoundariesTest {
    private static final int MIN = Integer.MIN_VALUE;
    private static final int MAX = Integer.MAX_VALUE;
    private static final String GOODS = "01a;-0101b;--010101c;-0102d.e;02f;";

    private TreeBoundariesTest() {
    }

    public static void main(String[] args) {
        Sentences.run(TreeBoundariesTest.class);
    }

    @Says(where = "Terms, READ", words = "the present EDITION (0 .. 2; 0 at first)")
    static void editionAtFirst() {
        Goods x = new Goods();
        x.due(0, x.count(1));
        x.rows("01a;");
        x.due(1, x.count(10));
        x.due(0, x.count(11));
        x.due(0, x.count(12));
    }

    @Says(where = "Terms, READ", words = "the present EDITION (0 .. 2; 0 at first)")
    static void threeEditions() {
        Goods x = Goods.of("01a;", "01a;02a;", "01a;02a;-0201a;");
        x.due(1, x.count(10));
        x.due(2, x.count(11));
        x.due(3, x.count(12));
        x.due(Check.INDEX, x.row(1, 0));
        x.go(2);
        x.due(10201, x.row(2, 0));
        x.go(1);
        x.due(102, x.row(1, 0));
    }

    @Says(where = "Promise 5", words = "The present EDITION is another one: true;")
    static void leastAndGreatestEdition() {
        Goods x = new Goods();
        x.due(true, x.edition(2));
        x.due(2, x.count(1));
        x.due(true, x.edition(0));
        x.due(0, x.count(1));
        x.due(true, x.edition(1));
        x.due(1, x.count(1));
    }

    @Says(where = "Promise 5", words = "false if there is none such,")
    static void noSuchEdition() {
        Goods x = new Goods().go(1);
        for (int e : new int[] {-1, 3, 4, 256, 257, MIN, MAX}) {
            x.due(false, x.edition(e));
            x.due(1, x.count(1));
        }
    }

    @Says(where = "Promise 5", words = "or it is it.")
    static void editionThatIsIt() {
        Goods x = new Goods();
        x.due(false, x.edition(0));
        x.go(1);
        x.due(false, x.edition(1));
        x.go(2);
        x.due(false, x.edition(2));
        x.due(2, x.count(1));
    }

    @Says(where = "Promise 5", words = "The present EDITION is another one: true;")
    static void changedEditionKeepsTheText() {
        Goods x = new Goods().type("01a").go(2).type(";");
        x.due(4, x.count(0));
        x.due(1, x.read());
        x.due(1, x.count(12));
        x.due(0, x.count(10));
    }

    @Says(where = "Promise 6", words = "Of row i (0 the first) of the present edition")
    static void firstAndLastRow() {
        Goods x = Goods.of(GOODS);
        x.due(101, x.row(0, 0));
        x.due(102, x.row(4, 0));
    }

    @Says(where = "Promise 6", words = "what 0: its CODE, 1: dashes, 2: words")
    static void codeDashesAndWordsOfARow() {
        Goods x = Goods.of(GOODS);
        x.due(10102, x.row(3, 0));
        x.due(1, x.row(3, 1));
        x.due(2, x.row(3, 2));
        x.due(1010101, x.row(2, 0));
        x.due(2, x.row(2, 1));
        x.due(1, x.row(2, 2));
    }

    @Says(where = "Promise 6", words = "IndexOutOfBoundsException if there is no such row")
    static void noSuchRow() {
        Goods x = Goods.of(GOODS);
        for (int i : new int[] {-1, 5, 6, 39, 40, 41, MIN, MAX}) {
            for (int what = 0; what < 5; what++) {
                x.due(Check.INDEX, x.row(i, what));
            }
        }
    }

    @Says(where = "Promise 6", words = "IndexOutOfBoundsException if there is no such row")
    static void noRowOfAnEditionWithoutRows() {
        Goods x = Goods.of(GOODS).go(1);
        x.due(Check.INDEX, x.row(0, 0));
        x.due(Check.INDEX, x.row(-1, 0));
    }

    @Says(where = "Promise 6", words = "IndexOutOfBoundsException if there is no such row or what.")
    static void noSuchWhatOfARow() {
        Goods x = Goods.of(GOODS);
        for (int what : new int[] {-1, 5, 6, MIN, MAX}) {
            x.due(Check.INDEX, x.row(0, what));
            x.due(Check.INDEX, x.row(4, what));
            x.due(Check.INDEX, x.row(5, what));
            x.due(Check.INDEX, x.row(-1, what));
        }
    }

    @Says(where = "Promise 6", words = "3: the CODE of the row which it is BELOW (0 without)")
    static void codeOfTheRowAbove() {
        Goods x = Goods.of(GOODS);
        x.due(0, x.row(0, 3));
        x.due(101, x.row(1, 3));
        x.due(10101, x.row(2, 3));
        x.due(101, x.row(3, 3));
        x.due(0, x.row(4, 3));
    }

    @Says(where = "Promise 6", words = "4: rows BELOW it (at once).")
    static void rowsBelowAtOnce() {
        Goods x = Goods.of(GOODS);
        x.due(2, x.row(0, 4));
        x.due(1, x.row(1, 4));
        x.due(0, x.row(2, 4));
        x.due(0, x.row(3, 4));
        x.due(0, x.row(4, 4));
    }

    @Says(where = "Promise 7", words = "The row of a code in the present edition;")
    static void firstAndLastCode() {
        Goods x = Goods.of(GOODS + "-0299999999a;99a;");
        x.due(0, x.find(101));
        x.due(4, x.find(102));
        x.due(5, x.find(10299999999L));
        x.due(6, x.find(199));
    }

    @Says(where = "Promise 7", words = "NONE without.")
    static void noSuchCode() {
        Goods x = Goods.of(GOODS);
        for (long code : new long[] {0, 1, -1, 100, 103, -101, 1010, 1, 201, (1L << 32) + 101,
            Long.MIN_VALUE, Long.MIN_VALUE + 101, Long.MAX_VALUE}) {
            x.due(-1, x.find(code));
        }
    }

    @Says(where = "Promise 7", words = "NONE without.")
    static void noCodeOfAnotherEdition() {
        Goods x = Goods.of("01a;", "02a;", "03a;");
        x.due(-1, x.find(102));
        x.due(-1, x.find(103));
        x.go(2);
        x.due(-1, x.find(101));
        x.due(0, x.find(103));
    }

    @Says(where = "Promise 16", words = "what 0: signs of the text")
    static void countOfSigns() {
        Goods x = new Goods();
        x.due(0, x.count(0));
        x.type("a");
        x.due(1, x.count(0));
        x.sign(' ');
        x.due(1, x.count(0));
    }

    @Says(where = "Promise 16", words = "1: the present edition")
    static void countOfThePresentEdition() {
        Goods x = new Goods();
        x.due(0, x.count(1));
        x.go(2).due(2, x.count(1));
        x.go(1).due(1, x.count(1));
        x.rows("01a;").due(1, x.count(1));
    }

    @Says(where = "Promise 16", words = "from 10 on rows of edition what - 10")
    static void countOfRows() {
        Goods x = Goods.of("01a;", "01a;-0101a;", "01a;-0101a;--010101a;");
        x.due(1, x.count(10));
        x.due(2, x.count(11));
        x.due(3, x.count(12));
    }

    @Says(where = "Promise 16", words = "from 20 on chapters of edition what - 20.")
    static void countOfChapters() {
        Goods x = Goods.of("01a;-0101a;", "01a;-0101a;02a;", "01a;-0101a;02a;03a;");
        x.due(1, x.count(20));
        x.due(2, x.count(21));
        x.due(3, x.count(22));
        x.rows("07a;08a;09a;10a;");
        x.due(4, x.count(20));
    }

    @Says(where = "Promise 16", words = "NONE for another what")
    static void noSuchCount() {
        Goods x = Goods.of(GOODS, GOODS, GOODS);
        for (int what : new int[] {-1, 5, 6, 7, 8, 9, 30, 100, 256, MIN, MIN + 10, MIN + 20, MAX}) {
            x.due(-1, x.count(what));
        }
    }

    @Says(where = "Promise 16", words = "NONE for another what or edition.")
    static void noCountOfAnotherEdition() {
        Goods x = Goods.of(GOODS, GOODS, GOODS);
        for (int what : new int[] {13, 14, 19, 23, 24, 29}) {
            x.due(-1, x.count(what));
        }
    }
}
