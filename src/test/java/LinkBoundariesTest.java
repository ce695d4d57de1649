/** The boundary cases of links, of what became of a code, and of what is lost. */
public final class LinkBoundariesTest {
    private static final int MIN = Integer.MIN_VALUE;
    private static final int MAX = Integer.MAX_VALUE;
    private static final int[] NO_EDITIONS = {-1, 3, 4, 256, MIN, MAX};
    private static final long[] NO_CODES =
        {0, 1, -1, 100, 105, 10102, (1L << 32) + 101, Long.MIN_VALUE, Long.MAX_VALUE};
    private static final String FOUR = "01a;02a;03a;04a;";
    private static final String EIGHT = "01a;02a;03a;04a;05a;06a;07a;08a;";
    private static final String TREE = "01a;-0101a;--010101a;-0102a;02a;";

    private LinkBoundariesTest() {
    }

    public static void main(String[] args) {
        Sentences.run(LinkBoundariesTest.class);
    }

    private static Goods fours() {
        return Goods.of(FOUR, FOUR, FOUR);
    }

    private static void addLink(Goods x, int from, long code, int to, long other) {
        x.due(true, x.link(from, code, to, other));
    }

    /** So many links from an edition to another one, all of whose codes are from 01 on. */
    private static void addLinks(Goods x, int from, int to, int many, int codes) {
        for (int i = 0; i < many; i++) {
            addLink(x, from, 101 + i / codes, to, 101 + i % codes);
        }
    }

    @Says(where = "Terms, LINKS", words = "LINKS (60 at most in all)")
    static void sixtyLinksOfTwoEditions() {
        Goods x = Goods.of(EIGHT, EIGHT, FOUR);
        addLinks(x, 0, 1, 60, 8);
        x.due(60, x.count(3));
        x.due(false, x.link(0, 108, 1, 108));
        x.due(60, x.count(3));
    }

    @Says(where = "Terms, LINKS", words = "LINKS (60 at most in all)")
    static void sixtyLinksOfAllEditions() {
        Goods x = fours();
        addLinks(x, 0, 1, 10, 4);
        addLinks(x, 1, 0, 10, 4);
        addLinks(x, 1, 2, 10, 4);
        addLinks(x, 2, 1, 10, 4);
        addLinks(x, 0, 2, 10, 4);
        addLinks(x, 2, 0, 10, 4);
        x.due(60, x.count(3));
        for (int from = 0; from < 3; from++) {
            x.due(false, x.link(from, 104, (from + 1) % 3, 104));
            x.due(false, x.link(from, 104, (from + 2) % 3, 104));
        }
        x.due(60, x.count(3));
    }

    @Says(where = "Promise 10", words = "or there are 60.")
    static void sixtiethLinkIsTaken() {
        Goods x = Goods.of(EIGHT, EIGHT, FOUR);
        addLinks(x, 0, 1, 59, 8);
        x.due(false, x.link(0, 101, 1, 101));
        x.due(59, x.count(3));
        x.due(true, x.link(2, 101, 0, 101));
        x.due(false, x.link(2, 101, 0, 102));
        x.due(60, x.count(3));
    }

    @Says(where = "Promise 10", words = "false if one of both is no code of its edition")
    static void linkOfNoCode() {
        Goods x = Goods.of(FOUR, FOUR + "05a;", FOUR);
        for (long bad : NO_CODES) {
            x.due(false, x.link(0, bad, 1, 102));
            x.due(false, x.link(0, 101, 2, bad));
        }
        // each code is looked for in its own edition
        x.due(false, x.link(0, 105, 1, 105));
        x.due(false, x.link(1, 105, 0, 105));
        x.due(true, x.link(1, 105, 0, 101));
        x.due(true, x.link(0, 101, 1, 105));
        x.due(2, x.count(3));
    }

    @Says(where = "Promise 10", words = "false if one of both is no code of its edition")
    static void linkOfNoSuchEdition() {
        Goods x = fours();
        for (int bad : NO_EDITIONS) {
            x.due(false, x.link(bad, 101, 1, 101));
            x.due(false, x.link(0, 101, bad, 101));
            x.due(false, x.link(bad, 101, bad, 101));
        }
        x.due(0, x.count(3));
    }

    @Says(where = "Promise 10", words = "false if one of both is no code of its edition")
    static void linkOfAnEditionWithoutRows() {
        Goods x = Goods.of(FOUR);
        x.due(false, x.link(0, 101, 1, 101));
        x.due(false, x.link(1, 101, 0, 101));
        x.due(false, x.link(1, 101, 2, 101));
    }

    @Says(where = "Promise 10", words = "the editions are the same")
    static void linkOfTheSameEditions() {
        Goods x = fours();
        for (int e = 0; e < 3; e++) {
            x.due(false, x.link(e, 101, e, 102));
            x.due(false, x.link(e, 101, e, 101));
        }
        x.due(0, x.count(3));
    }

    @Says(where = "Promise 10", words = "there is the same")
    static void sameLinkIsRefused() {
        Goods x = fours();
        x.due(true, x.link(0, 101, 1, 102));
        x.due(false, x.link(0, 101, 1, 102));
        x.due(1, x.count(3));
        // one that differs in one of the four is not the same, nor is one back
        x.due(true, x.link(2, 101, 1, 102));
        x.due(true, x.link(0, 103, 1, 102));
        x.due(true, x.link(0, 101, 2, 102));
        x.due(true, x.link(0, 101, 1, 103));
        x.due(true, x.link(1, 102, 0, 101));
        x.due(6, x.count(3));
    }

    @Says(where = "Promise 10", words = "A LINK: true;")
    static void linkOfOneCodeInTwoEditions() {
        Goods x = fours().go(2);
        x.due(true, x.link(0, 101, 1, 101));
        x.due(true, x.link(1, 104, 0, 104));
        x.due(101, x.linked(0, 101, 1, 0));
        x.due(104, x.linked(1, 104, 0, 0));
    }

    @Says(where = "Terms, LINKS", words = "They go when one of their editions is read anew.")
    static void linksGoWithEitherEdition() {
        for (int e = 0; e < 3; e++) {
            Goods x = fours();
            for (int from = 0; from < 3; from++) {
                addLink(x, from, 101, (from + 1) % 3, 102);
                addLink(x, from, 103, (from + 2) % 3, 104);
            }
            x.edition(e);
            x.rows(FOUR);
            x.due(2, x.count(3));
            int from = (e + 1) % 3;
            int to = (e + 2) % 3;
            x.due(102, x.linked(from, 101, to, 0));
            x.due(104, x.linked(to, 103, from, 0));
            x.due(0, x.became(e, 101, from));
            x.due(0, x.became(e, 103, to));
            x.due(0, x.became(from, 103, e));
            x.due(0, x.became(to, 101, e));
        }
    }

    @Says(where = "Terms, LINKS", words = "They go when one of their editions is read anew.")
    static void roomAgainWhenLinksGo() {
        Goods x = Goods.of(EIGHT, EIGHT, FOUR);
        addLinks(x, 0, 1, 59, 8);
        addLink(x, 2, 101, 0, 101);
        x.go(2).rows(FOUR);
        x.due(59, x.count(3));
        x.due(true, x.link(2, 101, 0, 101));
        x.due(false, x.link(2, 102, 0, 101));
    }

    @Says(where = "Terms, LINKS", words = "They go when one of their editions is read anew.")
    static void otherLinksKeepTheirOrder() {
        Goods x = fours();
        addLink(x, 2, 101, 0, 101);
        addLink(x, 0, 101, 1, 104);
        addLink(x, 0, 101, 2, 101);
        addLink(x, 1, 101, 2, 101);
        addLink(x, 0, 101, 1, 102);
        addLink(x, 0, 101, 1, 103);
        addLink(x, 2, 101, 1, 101);
        x.go(2).rows("01a;");
        x.due(3, x.count(3));
        x.due(104, x.linked(0, 101, 1, 0));
        x.due(102, x.linked(0, 101, 1, 1));
        x.due(103, x.linked(0, 101, 1, 2));
        x.due(0, x.linked(0, 101, 1, 3));
        x.due(2, x.became(0, 101, 1));
    }

    @Says(where = "Terms, LINKS", words = "They go when one of their editions is read anew.")
    static void linksStayWhenAReadingFails() {
        Goods x = fours();
        addLink(x, 0, 101, 1, 102);
        addLink(x, 1, 101, 0, 102);
        x.type("01a;02a");
        x.due(Check.STATE, x.read());
        x.due(2, x.count(3));
        x.due(102, x.linked(0, 101, 1, 0));
        x.due(102, x.linked(1, 101, 0, 0));
    }

    @Says(where = "Terms, OF A CODE", words = "0 it has no link;")
    static void becameNothing() {
        Goods x = fours();
        addLink(x, 0, 101, 2, 101);
        addLink(x, 2, 101, 1, 101);
        addLink(x, 1, 101, 0, 101);
        addLink(x, 0, 102, 1, 101);
        x.due(0, x.became(0, 101, 1));
    }

    @Says(where = "Terms, OF A CODE",
            words = "1 ONE TO ONE: one link, and the other one has no other from the first edition;")
    static void becameOne() {
        Goods x = fours();
        addLink(x, 0, 101, 1, 102);
        x.due(1, x.became(0, 101, 1));
        // links that are of other editions or of other codes do not count
        addLink(x, 2, 101, 1, 102);
        addLink(x, 2, 103, 1, 102);
        addLink(x, 0, 101, 2, 102);
        addLink(x, 0, 103, 2, 102);
        addLink(x, 1, 102, 0, 103);
        addLink(x, 0, 103, 1, 103);
        x.due(1, x.became(0, 101, 1));
    }

    @Says(where = "Terms, OF A CODE", words = "2 SPLIT: several, each of them with no other;")
    static void becameSeveral() {
        Goods x = fours();
        addLink(x, 0, 101, 1, 101);
        addLink(x, 0, 101, 1, 102);
        x.due(2, x.became(0, 101, 1));
        addLink(x, 0, 101, 1, 104);
        addLink(x, 0, 102, 1, 103);
        addLink(x, 2, 102, 1, 102);
        x.due(2, x.became(0, 101, 1));
    }

    @Says(where = "Terms, OF A CODE", words = "3 JOINED: one, which has others;")
    static void becameJoined() {
        Goods x = fours();
        addLink(x, 0, 101, 1, 101);
        addLink(x, 0, 102, 1, 101);
        x.due(3, x.became(0, 101, 1));
        x.due(3, x.became(0, 102, 1));
        addLink(x, 0, 103, 1, 101);
        x.due(3, x.became(0, 101, 1));
        x.due(3, x.became(0, 103, 1));
    }

    @Says(where = "Terms, OF A CODE", words = "4 BOTH.")
    static void becameBoth() {
        Goods x = fours();
        addLink(x, 0, 101, 1, 101);
        addLink(x, 0, 101, 1, 102);
        addLink(x, 0, 102, 1, 102);
        x.due(4, x.became(0, 101, 1));
        x.due(3, x.became(0, 102, 1));
        // the first one of several has others
        addLink(x, 0, 103, 1, 103);
        addLink(x, 0, 103, 1, 104);
        x.due(2, x.became(0, 103, 1));
        addLink(x, 0, 104, 1, 103);
        x.due(4, x.became(0, 103, 1));
    }

    @Says(where = "Promise 11", words = "IllegalArgumentException if there is no such edition")
    static void becameOfNoSuchEdition() {
        Goods x = fours();
        for (int bad : NO_EDITIONS) {
            x.due(Check.ARGUMENT, x.became(bad, 101, 1));
            x.due(Check.ARGUMENT, x.became(0, 101, bad));
            x.due(Check.ARGUMENT, x.became(bad, 101, bad));
        }
    }

    @Says(where = "Promise 11", words = "they are the same")
    static void becameOfTheSameEditions() {
        Goods x = fours();
        for (int e = 0; e < 3; e++) {
            x.due(Check.ARGUMENT, x.became(e, 101, e));
        }
    }

    @Says(where = "Promise 11", words = "or it is no code of the first one.")
    static void becameOfNoCode() {
        Goods x = Goods.of(FOUR, FOUR + "05a;", FOUR).go(1);
        for (long bad : NO_CODES) {
            x.due(Check.ARGUMENT, x.became(0, bad, 1));
        }
        x.due(0, x.became(1, 105, 0));
    }

    @Says(where = "Promise 11", words = "or it is no code of the first one.")
    static void becameOfAnEditionWithoutRows() {
        Goods x = Goods.of(FOUR);
        x.due(Check.ARGUMENT, x.became(1, 101, 0));
        x.due(0, x.became(0, 101, 1));
    }

    @Says(where = "Promise 12",
            words = "The i-th code that a code of an edition became in another one, as the links were told;")
    static void linkedInTheOrderTold() {
        Goods x = fours();
        addLink(x, 0, 101, 1, 104);
        addLink(x, 0, 102, 1, 102);
        addLink(x, 0, 101, 2, 103);
        addLink(x, 0, 101, 1, 101);
        addLink(x, 2, 101, 1, 103);
        addLink(x, 0, 101, 1, 102);
        x.due(104, x.linked(0, 101, 1, 0));
        x.due(101, x.linked(0, 101, 1, 1));
        x.due(102, x.linked(0, 101, 1, 2));
        x.due(0, x.linked(0, 101, 1, 3));
        x.due(103, x.linked(0, 101, 2, 0));
    }

    @Says(where = "Promise 12", words = "0 without.")
    static void noSuchLinked() {
        Goods x = fours();
        addLink(x, 0, 101, 1, 104);
        addLink(x, 0, 101, 1, 103);
        for (int i : new int[] {-1, 2, 3, 60, MIN, MAX}) {
            x.due(0, x.linked(0, 101, 1, i));
        }
        x.due(0, x.linked(0, 102, 1, 0));
        x.due(0, x.linked(0, 101, 2, 0));
        x.due(0, x.linked(1, 104, 0, 0));
    }

    @Says(where = "Promise 12", words = "IllegalArgumentException as became().")
    static void linkedOfNoSuchEdition() {
        Goods x = fours();
        for (int bad : NO_EDITIONS) {
            x.due(Check.ARGUMENT, x.linked(bad, 101, 1, 0));
            x.due(Check.ARGUMENT, x.linked(0, 101, bad, 0));
            x.due(Check.ARGUMENT, x.linked(bad, 101, bad, -1));
        }
    }

    @Says(where = "Promise 12", words = "IllegalArgumentException as became().")
    static void linkedOfTheSameEditions() {
        Goods x = fours();
        for (int e = 0; e < 3; e++) {
            x.due(Check.ARGUMENT, x.linked(e, 101, e, 0));
            x.due(Check.ARGUMENT, x.linked(e, 101, e, -1));
        }
    }

    @Says(where = "Promise 12", words = "IllegalArgumentException as became().")
    static void linkedOfNoCode() {
        Goods x = Goods.of(FOUR, FOUR + "05a;", FOUR).go(1);
        for (long bad : NO_CODES) {
            x.due(Check.ARGUMENT, x.linked(0, bad, 1, 0));
            x.due(Check.ARGUMENT, x.linked(0, bad, 1, -1));
        }
        x.due(0, x.linked(1, 105, 0, 0));
    }

    @Says(where = "Promise 13",
            words = "How many codes of an edition without rows below them have no link to another one.")
    static void lostCodesHaveNoRowsBelow() {
        Goods x = Goods.of(TREE, TREE, TREE).go(1);
        x.due(3, x.lost(0, 1));
        addLink(x, 0, 101, 1, 101);
        addLink(x, 0, 10101, 1, 101);
        x.due(3, x.lost(0, 1));
        addLink(x, 0, 1010101, 1, 101);
        x.due(2, x.lost(0, 1));
        addLink(x, 0, 10102, 1, 101);
        x.due(1, x.lost(0, 1));
        addLink(x, 0, 102, 1, 101);
        x.due(0, x.lost(0, 1));
    }

    @Says(where = "Promise 13", words = "have no link to another one.")
    static void lostToThatEditionAlone() {
        Goods x = Goods.of(TREE, TREE, TREE);
        addLink(x, 0, 102, 2, 102);
        addLink(x, 1, 102, 0, 102);
        addLink(x, 0, 10102, 1, 10102);
        addLink(x, 0, 10102, 1, 102);
        x.due(2, x.lost(0, 1));
        x.due(2, x.lost(0, 2));
        x.due(2, x.lost(1, 0));
        x.due(3, x.lost(2, 0));
    }

    @Says(where = "Promise 13", words = "How many codes of an edition")
    static void nothingIsLostWithoutRows() {
        Goods x = Goods.of(FOUR);
        x.due(0, x.lost(1, 0));
        x.due(0, x.lost(1, 2));
        x.due(4, x.lost(0, 1));
    }

    @Says(where = "Promise 13", words = "How many codes of an edition")
    static void fortyCodesAreLost() {
        StringBuilder text = new StringBuilder();
        for (int i = 10; i < 50; i++) {
            text.append(i).append("a;");
        }
        Goods x = Goods.of(text.toString());
        x.due(40, x.lost(0, 2));
    }

    @Says(where = "Promise 13", words = "IllegalArgumentException if there is no such edition")
    static void lostOfNoSuchEdition() {
        Goods x = fours();
        for (int bad : NO_EDITIONS) {
            x.due(Check.ARGUMENT, x.lost(bad, 1));
            x.due(Check.ARGUMENT, x.lost(0, bad));
            x.due(Check.ARGUMENT, x.lost(bad, bad));
        }
    }

    @Says(where = "Promise 13", words = "or they are the same.")
    static void lostOfTheSameEditions() {
        Goods x = Goods.of(FOUR);
        for (int e = 0; e < 3; e++) {
            x.due(Check.ARGUMENT, x.lost(e, e));
        }
    }

    @Says(where = "Promise 16", words = "3: LINKS in all")
    static void countOfLinks() {
        Goods x = fours();
        x.due(0, x.count(3));
        addLink(x, 0, 101, 1, 101);
        addLink(x, 1, 101, 2, 101);
        x.due(2, x.count(3));
        x.due(false, x.link(0, 101, 1, 101));
        x.due(2, x.count(3));
    }
}
