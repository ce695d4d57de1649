/** The boundary cases of notes. */
public final class NoteBoundariesTest {
    private static final int MIN = Integer.MIN_VALUE;
    private static final int MAX = Integer.MAX_VALUE;
    private static final String FIVE = "01a;02a;03a;04a;05a;";

    private NoteBoundariesTest() {
    }

    public static void main(String[] args) {
        Sentences.run(NoteBoundariesTest.class);
    }

    /** So many notes of the present edition, which has the rows of FIVE and no notes of kind 0. */
    private static void addNotes(Goods x, int many) {
        for (int i = 0; i < many; i++) {
            int code = i / 4;
            int other = (code + 1 + i % 4) % 5;
            x.due(i + 1, x.note(101 + code, 0, 101 + other));
        }
    }

    @Says(where = "Terms, NOTES", words = "NOTES (20 at most in all)")
    static void twentyNotesOfOneEdition() {
        Goods x = Goods.of(FIVE);
        addNotes(x, 20);
        x.due(20, x.count(2));
        x.due(Check.STATE, x.note(101, 1, 102));
        x.due(20, x.count(2));
    }

    @Says(where = "Terms, NOTES", words = "NOTES (20 at most in all) of an edition")
    static void twentyNotesOfAllEditions() {
        Goods x = Goods.of(FIVE, FIVE, FIVE);
        addNotes(x, 7);
        x.go(1);
        addNotes(x, 7);
        x.go(2);
        addNotes(x, 6);
        x.due(20, x.count(2));
        for (int e = 0; e < 3; e++) {
            x.edition(e);
            x.due(Check.STATE, x.note(105, 1, 104));
        }
        x.due(20, x.count(2));
    }

    @Says(where = "Promise 8", words = "IllegalStateException if there are 20")
    static void twentiethNoteIsTaken() {
        Goods x = Goods.of(FIVE);
        addNotes(x, 19);
        x.due(Check.STATE, x.note(101, 0, 102));
        x.due(20, x.note(105, 1, 104));
        x.due(Check.STATE, x.note(105, 1, 103));
    }

    @Says(where = "Promise 8", words = "IllegalStateException if there are 20, or there is the same.")
    static void sameNoteIsRefused() {
        Goods x = Goods.of(FIVE, FIVE, FIVE);
        x.due(1, x.note(101, 0, 102));
        x.due(Check.STATE, x.note(101, 0, 102));
        x.due(1, x.count(2));
        // another kind, the other way about, another code and another edition are not the same
        x.due(2, x.note(101, 1, 102));
        x.due(3, x.note(102, 0, 101));
        x.due(4, x.note(101, 0, 103));
        x.due(5, x.note(103, 0, 102));
        x.go(1);
        x.due(1, x.note(101, 0, 102));
        x.due(6, x.count(2));
    }

    @Says(where = "Promise 8", words = "A NOTE: how many there are of this edition.")
    static void notesAreCountedByEdition() {
        Goods x = Goods.of(FIVE, FIVE, FIVE);
        x.due(1, x.note(101, 0, 102));
        x.due(2, x.note(102, 0, 103));
        x.go(2);
        x.due(1, x.note(101, 0, 102));
        x.go(0);
        x.due(3, x.note(101, 1, 102));
        x.due(4, x.count(2));
    }

    @Says(where = "Promise 8", words = "IllegalArgumentException if one of the codes is none of the present edition")
    static void noteOfNoCode() {
        Goods x = Goods.of(FIVE, FIVE + "06a;", FIVE);
        for (long bad : new long[] {0, 1, -1, 100, 106, 10101, (1L << 32) + 101, Long.MIN_VALUE, Long.MAX_VALUE}) {
            x.due(Check.ARGUMENT, x.note(bad, 0, 102));
            x.due(Check.ARGUMENT, x.note(101, 0, bad));
            x.due(Check.ARGUMENT, x.note(bad, 0, bad));
        }
        x.due(0, x.count(2));
    }

    @Says(where = "Promise 8", words = "IllegalArgumentException if one of the codes is none of the present edition")
    static void noteInAnEditionWithoutRows() {
        Goods x = Goods.of(FIVE).go(1);
        x.due(Check.ARGUMENT, x.note(101, 0, 102));
        x.due(0, x.count(2));
    }

    @Says(where = "Promise 8", words = "they are the same")
    static void noteOfOneCodeTwice() {
        Goods x = Goods.of(FIVE);
        x.due(Check.ARGUMENT, x.note(101, 0, 101));
        x.due(Check.ARGUMENT, x.note(105, 1, 105));
        x.due(0, x.count(2));
    }

    @Says(where = "Promise 8", words = "or no such kind;")
    static void noteOfNoSuchKind() {
        Goods x = Goods.of(FIVE);
        for (int kind : new int[] {-1, 2, 3, 256, MIN, MAX}) {
            x.due(Check.ARGUMENT, x.note(101, kind, 102));
        }
        x.due(0, x.count(2));
    }

    @Says(where = "Terms, NOTES", words = "kind 0 (it includes that) or 1 (it leaves that out).")
    static void notesOfBothKinds() {
        Goods x = Goods.of(FIVE);
        x.due(1, x.note(101, 0, 103));
        x.due(2, x.note(101, 1, 103));
        x.due(4, x.noted(101, 0));
        x.due(5, x.noted(101, 1));
    }

    @Says(where = "Terms, the end", words = "Of several exceptions the one told first is thrown.")
    static void wrongArgumentAheadOfFullNotes() {
        Goods x = Goods.of(FIVE);
        addNotes(x, 20);
        x.due(Check.ARGUMENT, x.note(106, 0, 102));
        x.due(Check.ARGUMENT, x.note(101, 0, 106));
        x.due(Check.ARGUMENT, x.note(101, 0, 101));
        x.due(Check.ARGUMENT, x.note(101, 2, 102));
        x.due(Check.STATE, x.note(101, 0, 102));
    }

    @Says(where = "Terms, NOTES", words = "They go when the edition is read anew.")
    static void notesGoWithTheirEdition() {
        Goods x = Goods.of(FIVE, FIVE, FIVE);
        x.note(101, 0, 102);
        x.note(103, 1, 102);
        x.go(1).due(1, x.note(101, 0, 104));
        x.go(2).due(1, x.note(101, 0, 105));
        x.go(0).rows(FIVE);
        x.due(2, x.count(2));
        x.due(-1, x.noted(101, 0));
        x.due(-1, x.noted(103, 0));
        x.due(1, x.note(101, 0, 102));
        x.go(1).due(6, x.noted(101, 0));
        x.go(2).due(8, x.noted(101, 0));
    }

    @Says(where = "Terms, NOTES", words = "They go when the edition is read anew.")
    static void otherNotesKeepTheirOrder() {
        Goods x = Goods.of(FIVE, FIVE, FIVE);
        x.go(2).due(1, x.note(101, 0, 102));
        x.go(1).due(1, x.note(101, 0, 104));
        x.go(2).due(2, x.note(101, 0, 103));
        x.due(3, x.note(101, 0, 104));
        x.go(1).due(2, x.note(101, 1, 102));
        x.due(3, x.note(101, 0, 103));
        x.go(2).rows(FIVE);
        x.due(3, x.count(2));
        x.go(1);
        x.due(6, x.noted(101, 0));
        x.due(3, x.noted(101, 1));
        x.due(4, x.noted(101, 2));
        x.due(-1, x.noted(101, 3));
    }

    @Says(where = "Terms, NOTES", words = "They go when the edition is read anew.")
    static void roomAgainWhenNotesGo() {
        Goods x = Goods.of(FIVE, FIVE, FIVE);
        addNotes(x, 19);
        x.go(1);
        addNotes(x, 1);
        x.due(Check.STATE, x.note(105, 0, 101));
        x.rows(FIVE);
        x.due(19, x.count(2));
        x.due(1, x.note(105, 0, 101));
        x.due(Check.STATE, x.note(105, 0, 102));
    }

    @Says(where = "Terms, NOTES", words = "They go when the edition is read anew.")
    static void notesStayWhenAReadingFails() {
        Goods x = Goods.of(FIVE);
        x.note(101, 0, 102);
        x.type("01a;02a");
        x.due(Check.STATE, x.read());
        x.due(1, x.count(2));
        x.due(2, x.noted(101, 0));
    }

    @Says(where = "Promise 9",
            words = "The i-th NOTE of a code in the present edition: twice its row of the other code and the kind;")
    static void notesOfFirstAndLastRow() {
        Goods x = Goods.of(FIVE, FIVE, FIVE);
        x.note(102, 0, 101);
        x.note(103, 0, 104);
        x.note(102, 1, 105);
        x.note(102, 1, 101);
        x.go(1).due(1, x.note(102, 1, 103));
        x.go(0);
        x.due(0, x.noted(102, 0));
        x.due(9, x.noted(102, 1));
        x.due(1, x.noted(102, 2));
        x.due(6, x.noted(103, 0));
    }

    @Says(where = "Promise 9", words = "NONE without.")
    static void noSuchNote() {
        Goods x = Goods.of(FIVE, FIVE, FIVE);
        x.note(101, 0, 102);
        x.note(101, 1, 102);
        for (int i : new int[] {-1, 2, 3, 20, MIN, MAX}) {
            x.due(-1, x.noted(101, i));
        }
        // a note is that of its first code in its edition alone
        x.due(-1, x.noted(102, 0));
        x.go(1).due(-1, x.noted(101, 0));
    }

    @Says(where = "Promise 9", words = "IllegalArgumentException if it is no code of it.")
    static void notedOfNoCode() {
        Goods x = Goods.of(FIVE, FIVE + "06a;", FIVE);
        for (long bad : new long[] {0, 1, -1, 100, 106, 10101, (1L << 32) + 101, Long.MIN_VALUE, Long.MAX_VALUE}) {
            x.due(Check.ARGUMENT, x.noted(bad, 0));
            x.due(Check.ARGUMENT, x.noted(bad, -1));
        }
    }

    @Says(where = "Promise 9", words = "IllegalArgumentException if it is no code of it.")
    static void notedInAnEditionWithoutRows() {
        Goods x = Goods.of(FIVE).go(1);
        x.due(Check.ARGUMENT, x.noted(101, 0));
    }

    @Says(where = "Promise 16", words = "2: NOTES in all")
    static void countOfNotes() {
        Goods x = Goods.of(FIVE, FIVE, FIVE);
        x.due(0, x.count(2));
        x.note(101, 0, 102);
        x.go(2).due(1, x.note(101, 0, 102));
        x.due(2, x.count(2));
        x.note(101, 0, 102);
        x.due(2, x.count(2));
    }
}
