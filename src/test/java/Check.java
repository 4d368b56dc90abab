/** Counts the answers that are not as due, and prints each of them. */
final class Check {
    interface Call {
        long answer();
    }

    interface Act {
        void run();
    }

    private final String name;
    private int asked;
    private int wrong;

    Check(String name) {
        this.name = name;
    }

    void due(String what, long want, long got) {
        asked++;
        if (got != want) {
            wrong++;
            System.out.println(name + ": " + what + " answered " + got + ", due is " + want);
        }
    }

    void yes(String what, boolean got) {
        due(what, 1, got ? 1 : 0);
    }

    void no(String what, boolean got) {
        due(what, 0, got ? 1 : 0);
    }

    void bounds(String what, Call call) {
        thrown(what, "IndexOutOfBoundsException", call);
    }

    void argument(String what, Call call) {
        thrown(what, "IllegalArgumentException", call);
    }

    void state(String what, Call call) {
        thrown(what, "IllegalStateException", call);
    }

    void thrown(String what, String want, Call call) {
        asked++;
        String got = outcome(call);
        if (!got.equals("throws " + want)) {
            wrong++;
            System.out.println(name + ": " + what + " gave " + got + ", due is throws " + want);
        }
    }

    /** For calls that answer nothing. */
    static Call act(Act act) {
        return () -> {
            act.run();
            return 0;
        };
    }

    /** The exact class is told: the machine's own exceptions are subclasses of those that the document names. */
    static String outcome(Call call) {
        try {
            return String.valueOf(call.answer());
        } catch (RuntimeException e) {
            return "throws " + e.getClass().getSimpleName();
        }
    }

    void end() {
        System.out.println(name + ": " + asked + " answers, " + wrong + " not as due");
        if (wrong != 0) {
            System.exit(1);
        }
    }
}
