/** Counts and prints the answers that are not the ones that are due. */
final class Checks {
    static final String ILLEGAL = "throws.IllegalArgumentException";
    static final String OUT_OF_BOUNDS = "throws.IndexOutOfBoundsException";

    /** What a call answers, or throws. */
    interface Call {
        long answer();
    }

    /** The same of a call that is told which object to ask. */
    interface CallOf {
        long answer(SelfEndingCodes x);
    }

    private static final int MOST_PRINTED = 40;
    private int made = 0;
    private int wrong = 0;

    void due(String what, Object got, Object want) {
        made++;
        if (!got.equals(want)) {
            wrong++;
            if (wrong <= MOST_PRINTED) {
                System.out.println(what + ": answered " + got + ", due is " + want);
            }
        }
    }

    void due(String what, long got, long want) {
        due(what, Long.valueOf(got), Long.valueOf(want));
    }

    void illegal(String what, Call call) {
        due(what, outcome(call), ILLEGAL);
    }

    void outOfBounds(String what, Call call) {
        due(what, outcome(call), OUT_OF_BOUNDS);
    }

    // ---- answers that leave row, place and list as they were

    void keeps(String what, Samples.Maker maker, CallOf call, String want) {
        SelfEndingCodes x = maker.make();
        due(what, outcome(() -> call.answer(x)), want);
        due(what + ", the state then", Samples.stateText(x), Samples.stateText(maker.make()));
    }

    void keeps(String what, Samples.Maker maker, CallOf call, long want) {
        keeps(what, maker, call, Long.toString(want));
    }

    void illegalAndKeeps(String what, Samples.Maker maker, CallOf call) {
        keeps(what, maker, call, ILLEGAL);
    }

    void outOfBoundsAndKeeps(String what, Samples.Maker maker, CallOf call) {
        keeps(what, maker, call, OUT_OF_BOUNDS);
    }

    void noneAndKeeps(String what, Samples.Maker maker, CallOf call) {
        keeps(what, maker, call, "-1");
    }

    static String outcome(Call call) {
        try {
            return Long.toString(call.answer());
        } catch (RuntimeException e) {
            return "throws." + e.getClass().getSimpleName();
        }
    }

    void end() {
        System.out.println(made + " answers, " + wrong + " of them wrong");
        if (wrong != 0 || made == 0) {
            System.exit(1);
        }
    }
}
