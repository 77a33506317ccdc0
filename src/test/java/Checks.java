/** Counts and prints the answers that are not the ones that are due. */
final class Checks {
    /** What a call answers, or throws. */
    interface Call {
        long answer();
    }

    private static final int MOST_PRINTED = 40;
    private int made = 0;
    private int wrong = 0;

    void due(String what, Object got, Object want) {
        made++;
        if (!got.equals(want)) {
            wrong++;
            if (wrong <= MOST_PRINTED) {
                System.out.println(what + ": answered " + got + ", due is " + want);
            }
        }
    }

    void due(String what, long got, long want) {
        due(what, Long.valueOf(got), Long.valueOf(want));
    }

    void illegal(String what, Call call) {
        due(what, outcome(call), "throws.IllegalArgumentException");
    }

    void outOfBounds(String what, Call call) {
        due(what, outcome(call), "throws.IndexOutOfBoundsException");
    }

    static String outcome(Call call) {
        try {
            return Long.toString(call.answer());
        } catch (RuntimeException e) {
            return "throws." + e.getClass().getSimpleName();
        }
    }

    void end() {
        System.out.println(made + " answers, " + wrong + " of them wrong");
        if (wrong != 0 || made == 0) {
            System.exit(1);
        }
    }
}
