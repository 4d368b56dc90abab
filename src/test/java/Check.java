/** Counts the answers that are not as due, and prints each of them. */
final class Check {
    interface Call {
        long answer();
    }

    interface Act {
        void run();
    }

    private final String name;
    private String sentence = "";
    private int asked;
    private int wrong;

    Check(String name) {
        this.name = name;
    }

    /** What the next answers are due by. */
    void under(String words) {
        sentence = words.isEmpty() ? "" : words + ": ";
    }

    private void isWrong(String told) {
        wrong++;
        System.out.println(name + ": " + sentence + told);
    }

    void due(String what, long want, long got) {
        asked++;
        if (got != want) {
            isWrong(what + " answered " + got + ", due is " + want);
        }
    }

    void same(String what, String want, String got) {
        asked++;
        if (!got.equals(want)) {
            isWrong(what + ", but " + firstOther(want.split("\n"), got.split("\n")));
        }
    }

    private static String firstOther(String[] want, String[] got) {
        int line = 0;
        while (line < want.length && line < got.length && want[line].equals(got[line])) {
            line++;
        }
        return (line < got.length ? got[line] : "an end") + ", due is " + (line < want.length ? want[line] : "an end");
    }

    void yes(String what, boolean got) {
        due(what, 1, got ? 1 : 0);
    }

    void no(String what, boolean got) {
        due(what, 0, got ? 1 : 0);
    }

    void bounds(String what, Call call) {
        thrown(what, "IndexOutOfBoundsException", call);
    }

    void argument(String what, Call call) {
        thrown(what, "IllegalArgumentException", call);
    }

    void state(String what, Call call) {
        thrown(what, "IllegalStateException", call);
    }

    void thrown(String what, String want, Call call) {
        asked++;
        String got = outcome(call);
        if (!got.equals("throws " + want)) {
            isWrong(what + " gave " + got + ", due is throws " + want);
        }
    }

    /** For calls that answer nothing. */
    static Call act(Act act) {
        return () -> {
            act.run();
            return 0;
        };
    }

    /** The exact class is told: the machine's own exceptions are subclasses of those that the document names. */
    static String outcome(Call call) {
        try {
            return String.valueOf(call.answer());
        } catch (RuntimeException e) {
            return "throws " + e.getClass().getSimpleName();
        }
    }

    void end() {
        System.out.println(name + ": " + asked + " answers, " + wrong + " not as due");
        if (wrong != 0) {
            System.exit(1);
        }
    }
}
