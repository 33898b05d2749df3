/** Compares answers with the ones that are due and keeps the score of one test. */
final class Checks {
    interface Call {
        long answer();
    }

    interface Deed {
        void act();
    }

    private int made = 0;
    private int wrong = 0;

    void due(String call, long want, Call asked) {
        compare(call, Long.toString(want), told(asked));
    }

    void dueThrow(String call, Class<? extends RuntimeException> want, Call asked) {
        compare(call, "throws." + want.getSimpleName(), told(asked));
    }

    void dueNothing(String call, Deed deed) {
        compare(call, "0", told(asCall(deed)));
    }

    void compare(String call, String want, String got) {
        made++;
        if (!want.equals(got)) {
            wrong++;
            System.out.println(call + " answered " + got + ", due is " + want);
        }
    }

    /** The answer as a text; an exception as its simple name behind "throws.". */
    static String told(Call asked) {
        try {
            return Long.toString(asked.answer());
        } catch (RuntimeException e) {
            return "throws." + e.getClass().getSimpleName();
        }
    }

    static Call asCall(Deed deed) {
        return () -> {
            deed.act();
            return 0;
        };
    }

    /** Ends the test: exit code 1 if an answer was wrong, or if nothing was asked. */
    void finish() {
        System.out.println(made + " answers, " + wrong + " wrong");
        if (wrong != 0 || made == 0) {
            System.exit(1);
        }
    }
}
