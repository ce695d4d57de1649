import java.util.function.Function;

/** What throws or is refused changes nothing; what fails uses up the text, and changes nothing else. */
public final class RefusalBoundariesTest {
    private static final String ROWS = "01a;-0101b;02c;";
    private static final String FIVE = "01a;02a;03a;04a;05a;";
    private static final String EIGHT = "01a;02a;03a;04a;05a;06a;07a;08a;";

    private RefusalBoundariesTest() {
    }

    public static void main(String[] args) {
        Sentences.run(RefusalBoundariesTest.class);
    }

    /** One with rows, notes, links, rows found, a failure and a text; edition 1 is the present one. */
    private static Goods busy() {
        Goods x = Goods.of(ROWS, ROWS, "01a;");
        x.note(101, 1, 10101);
        x.search("b.a");
        x.link(0, 101, 1, 102);
        x.link(1, 102, 2, 101);
        x.go(1).type("-");
        x.read();
        x.note(101, 0, 102);
        return x.type("01a");
    }

    private static void refused(Goods x, String answer, Function<Goods, String> call) {
        String before = x.state();
        x.due(answer, call.apply(x));
        x.due(before, x.state());
    }

    @Says(where = "Terms, the end", words = "what else throws or is refused changes nothing.")
    static void refusedSignChangesNothing() {
        refused(busy(), "false", x -> x.sign(' '));
        refused(busy(), "false", x -> x.sign(-1));
        refused(new Goods().type("a".repeat(400)), "false", x -> x.sign('b'));
    }

    @Says(where = "Terms, the end", words = "what else throws or is refused changes nothing.")
    static void refusedSignIsNotInTheText() {
        Goods x = new Goods().type("01");
        x.due(false, x.sign('_'));
        x.type("a");
        x.due(false, x.sign(' '));
        x.type(";");
        x.due(1, x.read());
    }

    @Says(where = "Terms, the end", words = "what else throws or is refused changes nothing.")
    static void refusedEditionChangesNothing() {
        refused(busy(), "false", x -> x.edition(1));
        refused(busy(), "false", x -> x.edition(3));
        refused(busy(), "false", x -> x.edition(-1));
    }

    @Says(where = "Terms, the end", words = "what else throws or is refused changes nothing.")
    static void refusedRowChangesNothing() {
        refused(busy(), Check.INDEX, x -> x.row(3, 0));
        refused(busy(), Check.INDEX, x -> x.row(0, 5));
    }

    @Says(where = "Terms, the end", words = "what else throws or is refused changes nothing.")
    static void refusedNoteChangesNothing() {
        refused(busy(), Check.ARGUMENT, x -> x.note(103, 0, 101));
        refused(busy(), Check.ARGUMENT, x -> x.note(101, 0, 103));
        refused(busy(), Check.ARGUMENT, x -> x.note(101, 0, 101));
        refused(busy(), Check.ARGUMENT, x -> x.note(101, 2, 102));
        refused(busy(), Check.STATE, x -> x.note(101, 0, 102));
    }

    @Says(where = "Terms, the end", words = "what else throws or is refused changes nothing.")
    static void refusedTwentyFirstNoteChangesNothing() {
        Goods x = Goods.of(FIVE);
        for (int i = 0; i < 20; i++) {
            x.note(101 + i / 4, 0, 101 + (i / 4 + 1 + i % 4) % 5);
        }
        x.due(20, x.count(2));
        refused(x, Check.STATE, y -> y.note(101, 1, 102));
    }

    @Says(where = "Terms, the end", words = "what else throws or is refused changes nothing.")
    static void refusedNotedChangesNothing() {
        refused(busy(), Check.ARGUMENT, x -> x.noted(103, 0));
        refused(busy(), "-1", x -> x.noted(101, 1));
    }

    @Says(where = "Terms, the end", words = "what else throws or is refused changes nothing.")
    static void refusedLinkChangesNothing() {
        refused(busy(), "false", x -> x.link(0, 103, 1, 101));
        refused(busy(), "false", x -> x.link(0, 101, 1, 103));
        refused(busy(), "false", x -> x.link(0, 101, 0, 102));
        refused(busy(), "false", x -> x.link(0, 101, 1, 102));
        refused(busy(), "false", x -> x.link(3, 101, 1, 102));
        refused(busy(), "false", x -> x.link(0, 101, -1, 102));
    }

    @Says(where = "Terms, the end", words = "what else throws or is refused changes nothing.")
    static void refusedSixtyFirstLinkChangesNothing() {
        Goods x = Goods.of(EIGHT).go(1).rows(EIGHT).go(0);
        for (int i = 0; i < 60; i++) {
            x.due(true, x.link(0, 101 + i / 8, 1, 101 + i % 8));
        }
        String held = linksFrom0To1(x);
        x.due(false, x.link(0, 108, 1, 108));
        x.due(60, x.count(3));
        x.due(held, linksFrom0To1(x));
    }

    private static String linksFrom0To1(Goods x) {
        StringBuilder told = new StringBuilder();
        for (int code = 101; code <= 108; code++) {
            for (int i = 0; i < 8; i++) {
                told.append(x.linked(0, code, 1, i)).append(' ');
            }
        }
        return told.toString();
    }

    @Says(where = "Terms, the end", words = "what else throws or is refused changes nothing.")
    static void refusedLooksAtLinksChangeNothing() {
        refused(busy(), Check.ARGUMENT, x -> x.became(0, 101, 3));
        refused(busy(), Check.ARGUMENT, x -> x.became(0, 103, 1));
        refused(busy(), Check.ARGUMENT, x -> x.linked(0, 101, 0, 0));
        refused(busy(), "0", x -> x.linked(0, 101, 1, 1));
        refused(busy(), Check.ARGUMENT, x -> x.lost(0, 0));
        refused(busy(), Check.ARGUMENT, x -> x.lost(-1, 0));
    }

    @Says(where = "Terms, the end", words = "what else throws or is refused changes nothing.")
    static void refusedFoundFailureAndCountChangeNothing() {
        refused(busy(), Check.INDEX, x -> x.found(9, 0));
        refused(busy(), Check.INDEX, x -> x.found(0, 2));
        refused(busy(), "-1", x -> x.failure(2));
        refused(busy(), "-1", x -> x.count(5));
        refused(busy(), "-1", x -> x.count(13));
        refused(busy(), "-1", x -> x.find(103));
    }

    @Says(where = "Terms, the end", words = "Reading and searching use up the text, also when they fail;")
    static void failedReadingChangesNothingElse() {
        Goods x = busy();
        String held = x.heldState();
        x.due(Check.STATE, x.read());
        x.due(held, x.heldState());
        x.due(0, x.count(0));
        x.due(1, x.failure(0));
        x.due(3, x.failure(1));
    }

    @Says(where = "Terms, the end", words = "Reading and searching use up the text, also when they fail;")
    static void failedSearchChangesNothingElse() {
        Goods x = busy();
        String held = x.heldState();
        x.due(Check.STATE, x.search());
        x.due(held, x.heldState());
        x.due(0, x.count(0));
        x.due(1, x.failure(0));
        x.due(0, x.failure(1));
    }

    @Says(where = "What it is", words = "An object is used for at most 512 calls after it has been made;")
    static void objectAnswersFiveHundredAndTwelveCalls() {
        Goods x = Goods.of("01a;02b;").search("a");
        for (int i = 0; i < 494; i++) {
            x.due(false, x.sign(' '));
        }
        x.due(true, x.sign('b'));
        x.due(1, x.search());
        x.due(102, x.found(0, 0));
        x.due(4, x.found(0, 1));
        x.due(-1, x.failure(1));
    }
}
