import java.util.ArrayList;
import java.util.Comparator;
import java.util.List;
import java.util.regex.Matcher;
import java.util.regex.Pattern;

/** The document written a second time, with the means that the class itself may not use. */
final class Model {
    private static final String WORD = "[a-z]{1,8}";
    private static final Pattern ROW =
            Pattern.compile("-{0,4}([0-9][0-9]){1,5}" + WORD + "(\\." + WORD + "){0,3};");
    private static final Pattern ASKED = Pattern.compile(WORD + "(\\." + WORD + "){0,5}");
    private static final Pattern HEAD = Pattern.compile("(-*)([0-9]*)");
    // Of failures at one place the one that stands first here counts.
    private static final String RANKS = "12534";

    record Row(String code, int dashes, List<String> words, Row parent) {
        long told() {
            return Long.parseLong("1" + code);
        }
    }

    record Note(int edition, long code, int kind, long other) { }

    record Link(int from, long code, int to, long other) { }

    record Failure(int kind, int place) { }

    record Found(long code, int points) { }

    private final List<List<Row>> editions = new ArrayList<>(List.of(List.of(), List.of(), List.of()));
    private final List<Note> notes = new ArrayList<>();
    private final List<Link> links = new ArrayList<>();
    private List<Found> found = List.of();
    private String text = "";
    private Failure failure = new Failure(0, -1);
    private int present = 0;

    boolean sign(int c) {
        if (c < 0 || c > 127 || text.length() >= 400 || !Character.toString(c).matches("[-.;0-9a-zA-Z]")) {
            return false;
        }
        text += Character.toString(c).toLowerCase();
        return true;
    }

    int read() {
        List<Row> rows = new ArrayList<>();
        List<Failure> failures = new ArrayList<>();
        int start = 0;
        do {
            int end = text.indexOf(';', start) < 0 ? text.length() : text.indexOf(';', start) + 1;
            readRow(rows, failures, start, text.substring(start, end));
            start = end;
        } while (start < text.length() && failures.isEmpty());
        text = "";
        failures.sort(Comparator.comparingInt(Failure::place).thenComparingInt(f -> RANKS.indexOf('0' + f.kind())));
        failure = failures.isEmpty() ? new Failure(0, -1) : failures.get(0);
        if (!failures.isEmpty()) {
            throw new IllegalStateException();
        }
        editions.set(present, rows);
        notes.removeIf(n -> n.edition() == present);
        links.removeIf(l -> l.from() == present || l.to() == present);
        return rows.size();
    }

    private static void readRow(List<Row> rows, List<Failure> failures, int start, String piece) {
        Matcher head = HEAD.matcher(piece);
        head.lookingAt();
        int dashes = head.group(1).length();
        String code = head.group(2);
        Row ahead = rows.isEmpty() ? null : rows.get(rows.size() - 1);
        int wrong = wrongSign(ROW, piece);
        if (wrong >= 0) {
            failures.add(new Failure(1, start + wrong));
        }
        if (dashes > (ahead == null ? 0 : ahead.dashes() + 1)) {
            failures.add(new Failure(2, start));
        }
        if (rows.size() == 40) {
            failures.add(new Failure(5, start));
        }
        Row parent = null;
        for (Row r : rows) {
            parent = r.dashes() == dashes - 1 ? r : parent;
        }
        if (code.matches("([0-9][0-9]){1,5}")) {
            String upper = parent == null ? "" : parent.code();
            boolean chapter = dashes == 0;
            if (chapter ? code.length() > 2 : !code.startsWith(upper) || code.equals(upper)) {
                failures.add(new Failure(3, start + dashes));
            }
            if (ahead != null && code.compareTo(ahead.code()) <= 0) {
                failures.add(new Failure(4, start + dashes));
            }
        }
        if (failures.isEmpty()) {
            rows.add(new Row(code, dashes, wordsOf(piece.substring(head.end(), piece.length() - 1)), parent));
        }
    }

    private static List<String> wordsOf(String words) {
        return List.of(words.split("\\."));
    }

    /** The first place where no right text goes on, or the length if a right one would; -1 if it is right. */
    private static int wrongSign(Pattern pattern, String piece) {
        if (pattern.matcher(piece).matches()) {
            return -1;
        }
        for (int k = 1; k <= piece.length(); k++) {
            Matcher m = pattern.matcher(piece.substring(0, k));
            if (!m.matches() && !m.hitEnd()) {
                return k - 1;
            }
        }
        return piece.length();
    }

    int failure(int which) {
        return which == 0 ? failure.kind() : which == 1 ? failure.place() : -1;
    }

    boolean edition(int e) {
        boolean other = e != present && e >= 0 && e <= 2;
        present = other ? e : present;
        return other;
    }

    long row(int i, int what) {
        List<Row> rows = editions.get(present);
        if (i < 0 || i >= rows.size() || what < 0 || what > 4) {
            throw new IndexOutOfBoundsException();
        }
        Row r = rows.get(i);
        long parent = r.parent() == null ? 0 : r.parent().told();
        long below = rows.stream().filter(x -> x.parent() == r).count();
        return List.of(r.told(), (long) r.dashes(), (long) r.words().size(), parent, below).get(what);
    }

    int find(long code) {
        return editions.get(present).stream().map(Row::told).toList().indexOf(code);
    }

    private boolean has(int e, long code) {
        return e >= 0 && e <= 2 && editions.get(e).stream().anyMatch(r -> r.told() == code);
    }

    int note(long code, int kind, long other) {
        if (!has(present, code) || !has(present, other) || code == other || kind < 0 || kind > 1) {
            throw new IllegalArgumentException();
        }
        Note n = new Note(present, code, kind, other);
        if (notes.size() == 20 || notes.contains(n)) {
            throw new IllegalStateException();
        }
        notes.add(n);
        return (int) notes.stream().filter(x -> x.edition() == present).count();
    }

    int noted(long code, int i) {
        if (!has(present, code)) {
            throw new IllegalArgumentException();
        }
        List<Note> own = notes.stream().filter(n -> n.edition() == present && n.code() == code).toList();
        return i < 0 || i >= own.size() ? -1 : 2 * find(own.get(i).other()) + own.get(i).kind();
    }

    boolean link(int from, long code, int to, long other) {
        Link l = new Link(from, code, to, other);
        if (!has(from, code) || !has(to, other) || from == to || links.contains(l) || links.size() == 60) {
            return false;
        }
        return links.add(l);
    }

    private List<Long> others(int from, long code, int to) {
        lost(from, to);
        if (!has(from, code)) {
            throw new IllegalArgumentException();
        }
        return links.stream().filter(l -> l.from() == from && l.code() == code && l.to() == to)
                .map(Link::other).toList();
    }

    int became(int from, long code, int to) {
        List<Long> others = others(from, code, to);
        boolean joined = links.stream().anyMatch(
                l -> l.from() == from && l.to() == to && l.code() != code && others.contains(l.other()));
        return others.isEmpty() ? 0 : (others.size() == 1 ? 1 : 2) + (joined ? 2 : 0);
    }

    long linked(int from, long code, int to, int i) {
        List<Long> others = others(from, code, to);
        return i < 0 || i >= others.size() ? 0 : others.get(i);
    }

    int lost(int from, int to) {
        if (from < 0 || from > 2 || to < 0 || to > 2 || from == to) {
            throw new IllegalArgumentException();
        }
        List<Row> rows = editions.get(from);
        return (int) rows.stream().filter(r -> rows.stream().noneMatch(x -> x.parent() == r))
                .filter(r -> links.stream().noneMatch(
                        l -> l.from() == from && l.to() == to && l.code() == r.told()))
                .count();
    }

    int search() {
        String asked = text;
        text = "";
        int wrong = wrongSign(ASKED, asked);
        failure = new Failure(wrong >= 0 ? 1 : 0, wrong);
        if (wrong >= 0) {
            throw new IllegalStateException();
        }
        found = editions.get(present).stream().map(r -> new Found(r.told(), points(r, wordsOf(asked))))
                .filter(f -> f.points() > 0)
                .sorted(Comparator.comparingInt(f -> -f.points())).toList();
        return found.size();
    }

    private int points(Row row, List<String> asked) {
        int points = 0;
        for (String word : asked) {
            points += row.words().contains(word) ? 4 : wordAbove(row, word) ? 2 : 0;
        }
        for (Row up = row.parent(); up != null; up = up.parent()) {
            if (notes.contains(new Note(present, up.told(), 1, row.told()))) {
                return points / 2;
            }
        }
        return points;
    }

    private static boolean wordAbove(Row row, String word) {
        Row up = row.parent();
        return up != null && (up.words().contains(word) || wordAbove(up, word));
    }

    long found(int i, int what) {
        if (i < 0 || i >= found.size() || what < 0 || what > 1) {
            throw new IndexOutOfBoundsException();
        }
        return what == 0 ? found.get(i).code() : found.get(i).points();
    }

    int count(int what) {
        if (what >= 10 && what <= 12) {
            return editions.get(what - 10).size();
        }
        if (what >= 20 && what <= 22) {
            return (int) editions.get(what - 20).stream().filter(r -> r.dashes() == 0).count();
        }
        int[] counts = {text.length(), present, notes.size(), links.size(), found.size()};
        return what >= 0 && what <= 4 ? counts[what] : -1;
    }
}
