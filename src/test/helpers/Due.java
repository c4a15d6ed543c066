/** Counts and prints the answers that are not the ones that are due. */
final class Due {
    interface Call {
        long answer();
    }

    interface Act {
        void run();
    }

    private static int wrong = 0;
    private static int asked = 0;

    private Due() {
    }

    static void answer(String call, long got, long want) {
        asked++;
        if (got != want) {
            wrong++;
            System.out.println(call + " answered " + got + ", due is " + want);
        }
    }

    static void answer(String call, boolean got, boolean want) {
        answer(call, got ? 1 : 0, want ? 1 : 0);
    }

    static void real(String call, double got, double want) {
        asked++;
        if (!(got == want)) {
            wrong++;
            System.out.println(call + " answered " + got + ", due is " + want);
        }
    }

    static void text(String call, String got, String want) {
        asked++;
        if (!got.equals(want)) {
            wrong++;
            System.out.println(call + " answered '" + got + "', due is '" + want + "'");
        }
    }

    /** The call must throw an exception of exactly this class. */
    static void refusal(String call, Class<?> want, Act act) {
        asked++;
        String got = "nothing";
        try {
            act.run();
        } catch (RuntimeException thrown) {
            if (thrown.getClass() == want) {
                return;
            }
            got = thrown.toString();
        }
        wrong++;
        System.out.println(call + " threw " + got + ", due is " + want.getSimpleName());
    }

    static void index(String call, Act act) {
        refusal(call, IndexOutOfBoundsException.class, act);
    }

    static void argument(String call, Act act) {
        refusal(call, IllegalArgumentException.class, act);
    }

    static void state(String call, Act act) {
        refusal(call, IllegalStateException.class, act);
    }

    /** Ends the test's program: with exit code 1 if an answer was wrong. */
    static void end() {
        System.out.println(wrong == 0 ? asked + " answers are as due" : wrong + " answers are not as due");
        if (wrong != 0) {
            System.exit(1);
        }
    }
}
