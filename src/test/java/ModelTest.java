import java.util.ArrayList;
import java.util.List;
import java.util.Random;
import java.util.TreeMap;
import java.util.function.LongSupplier;
import java.util.function.Supplier;

/** Runs of calls, drawn with fixed seeds, on the class and on the model: all answers must be the same. */
public final class ModelTest {
    private static final int RUNS = 3000;
    private static final int CALLS = 512;
    private static final String[] WORDS = {"a", "b", "ox", "raw", "abcdefg", "abcdefgh", "Tea"};
    private static final String SIGNS = "-.;0123456789abzAZ";

    private final Random random;
    private final GoodsTree tree = new GoodsTree();
    private final Model model = new Model();
    private final List<Long> codes = new ArrayList<>(List.of(101L, 102L, 10101L, 0L));
    private final String run;
    private int calls = 0;

    private ModelTest(int seed) {
        random = new Random(seed);
        run = "run " + seed + " ";
    }

    public static void main(String[] args) {
        TreeMap<Integer, Integer> failures = new TreeMap<>();
        for (int seed = 0; seed < RUNS; seed++) {
            new ModelTest(seed).go(failures);
        }
        System.out.println("readings by failure: " + failures);
        Check.due("kinds of readings met", "[0, 1, 2, 3, 4, 5]", failures.keySet());
        Check.end();
    }

    private void go(TreeMap<Integer, Integer> failures) {
        read(failures);
        while (calls < CALLS) {
            int draw = random.nextInt(40);
            if (draw == 0) {
                read(failures);
            } else if (draw < 3) {
                search();
            } else if (draw < 6) {
                changeEdition();
            } else if (draw < 13) {
                noteOrNoted();
            } else if (draw < 30) {
                linkOrLinked();
            } else {
                look();
            }
        }
    }

    /** No call is made once the object has had as many as the document promises answers for. */
    private void same(String call, Supplier<Object> want, Supplier<Object> got) {
        if (calls < CALLS) {
            calls++;
            Check.due(run + call, want.get(), got.get());
        }
    }

    private void sameLong(String call, LongSupplier want, LongSupplier got) {
        same(call, () -> Check.told(want), () -> Check.told(got));
    }

    private void type(String text) {
        for (char c : text.toCharArray()) {
            same("sign " + c, () -> model.sign(c), () -> tree.sign(c));
        }
    }

    private void read(TreeMap<Integer, Integer> failures) {
        String text = spoilt(nomenclature());
        type(text);
        sameLong("read " + text, model::read, tree::read);
        sameFailure(text);
        failures.merge(model.failure(0), 1, Integer::sum);
    }

    private void search() {
        StringBuilder asked = new StringBuilder(word());
        for (int i = random.nextInt(7); i > 0; i--) {
            asked.append('.').append(word());
        }
        String text = random.nextInt(4) == 0 ? spoilt(asked.toString()) : asked.toString();
        type(text);
        sameLong("search " + text, model::search, tree::search);
        sameFailure(text);
        for (int i = 0; i < Math.min(5, model.count(4)) + 1; i++) {
            int k = i;
            sameLong("found " + i, () -> model.found(k, 0), () -> tree.found(k, 0));
            sameLong("points " + i, () -> model.found(k, 1), () -> tree.found(k, 1));
        }
    }

    private void sameFailure(String text) {
        same("failure of " + text, () -> model.failure(0), () -> tree.failure(0));
        same("place of " + text, () -> model.failure(1), () -> tree.failure(1));
    }

    private void changeEdition() {
        int e = small(3);
        same("edition " + e, () -> model.edition(e), () -> tree.edition(e));
    }

    private void noteOrNoted() {
        long code = code();
        long other = code();
        int kind = small(2);
        if (random.nextBoolean()) {
            sameLong("note " + code + " " + kind + " " + other,
                    () -> model.note(code, kind, other), () -> tree.note(code, kind, other));
        } else {
            sameLong("noted " + code + " " + kind,
                    () -> model.noted(code, kind), () -> tree.noted(code, kind));
        }
    }

    private void linkOrLinked() {
        int from = small(3);
        int to = small(3);
        long code = code();
        long other = code();
        int i = small(3);
        String told = from + " " + code + " " + to;
        switch (random.nextInt(6)) {
            case 0:
                sameLong("became " + told,
                        () -> model.became(from, code, to), () -> tree.became(from, code, to));
                break;
            case 1:
                sameLong("linked " + told + " " + i,
                        () -> model.linked(from, code, to, i), () -> tree.linked(from, code, to, i));
                break;
            case 2:
                sameLong("lost " + from + " " + to,
                        () -> model.lost(from, to), () -> tree.lost(from, to));
                break;
            default:
                same("link " + told + " " + other,
                        () -> model.link(from, code, to, other), () -> tree.link(from, code, to, other));
        }
    }

    private void look() {
        int i = random.nextInt(42) - 1;
        int what = small(5);
        long code = code();
        switch (random.nextInt(3)) {
            case 0:
                sameLong("row " + i + " " + what, () -> model.row(i, what), () -> tree.row(i, what));
                break;
            case 1:
                same("find " + code, () -> model.find(code), () -> tree.find(code));
                break;
            default:
                int all = random.nextInt(26) - 1;
                same("count " + all, () -> model.count(all), () -> tree.count(all));
        }
    }

    private int small(int beyond) {
        return random.nextInt(12) == 0 ? random.nextInt(beyond + 2) - 1 : random.nextInt(beyond);
    }

    private long code() {
        return codes.get(random.nextInt(codes.size()));
    }

    private String word() {
        return WORDS[random.nextInt(WORDS.length)];
    }

    private String nomenclature() {
        int most = random.nextInt(8) == 0 ? 45 : random.nextInt(10) + 1;
        StringBuilder text = new StringBuilder();
        String[] path = new String[5];
        int depth = -1;
        for (int i = 0; i < most; i++) {
            int dashes = most > 40 ? i % 2 : random.nextInt(Math.min(depth + 1, 4) + 1);
            String upper = dashes == 0 ? "" : path[dashes - 1];
            boolean again = dashes <= depth;
            String last = again ? path[dashes].substring(upper.length(), upper.length() + 2) : "00";
            int next = Integer.parseInt(last) + 1 + random.nextInt(most > 40 ? 1 : 3);
            String code = upper + (next < 10 ? "0" : "") + next;
            path[dashes] = code;
            depth = dashes;
            codes.add(Long.parseLong("1" + code));
            text.append("-".repeat(dashes)).append(code).append(most > 40 ? "b" : word());
            for (int k = most > 40 ? 0 : random.nextInt(4); k > 0; k--) {
                text.append('.').append(word());
            }
            text.append(';');
        }
        return text.toString();
    }

    /** Some texts stay right; in some two rows change places or a row gets a dash; others are spoilt sign by sign. */
    private String spoilt(String text) {
        int draw = random.nextInt(10);
        String[] rows = text.split("(?<=;)");
        int one = random.nextInt(rows.length);
        int two = random.nextInt(rows.length);
        if (draw == 0) {
            rows[one] = "-".repeat(1 + random.nextInt(2)) + rows[one];
        } else if (draw == 1) {
            String row = rows[one];
            rows[one] = rows[two];
            rows[two] = row;
        }
        return draw < 2 ? String.join("", rows) : spoiltSigns(text);
    }

    private String spoiltSigns(String text) {
        StringBuilder b = new StringBuilder(text);
        for (int i = random.nextInt(3) * random.nextInt(2); i > 0 && b.length() > 0; i--) {
            int at = random.nextInt(b.length());
            char sign = SIGNS.charAt(random.nextInt(SIGNS.length()));
            switch (random.nextInt(6)) {
                case 0:
                    b.insert(at, sign);
                    break;
                case 1:
                    b.deleteCharAt(at);
                    break;
                case 2:
                    b.setCharAt(at, sign);
                    break;
                case 3:
                    b.insert(at, b.charAt(at));
                    break;
                case 4:
                    b.insert(at, b.substring(at, Math.min(b.length(), at + 2)));
                    break;
                default:
                    b.setLength(at);
            }
        }
        return b.toString();
    }
}
