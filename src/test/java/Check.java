import java.util.function.LongSupplier;

/** Compares answers with those that are due; an exception is an answer of its own. */
final class Check {
    static final String INDEX = "IndexOutOfBoundsException";
    static final String ARGUMENT = "IllegalArgumentException";
    static final String STATE = "IllegalStateException";

    private static String about = "";
    private static int wrong = 0;

    private Check() {
    }

    /** What the next comparisons are about; it is told ahead of each that is not as due. */
    static void within(String what) {
        about = what;
    }

    static String told(LongSupplier call) {
        try {
            return Long.toString(call.getAsLong());
        } catch (RuntimeException e) {
            return e.getClass().getSimpleName();
        }
    }

    static void due(String what, Object want, Object got) {
        if (!String.valueOf(want).equals(String.valueOf(got))) {
            wrong++;
            if (wrong <= 50) {
                System.out.println(about + what + ": answered " + got + ", due is " + want);
            }
        }
    }

    static void end() {
        System.out.println(wrong == 0 ? "all answers are as due" : wrong + " answers are not as due");
        if (wrong != 0) {
            System.exit(1);
        }
    }
}
