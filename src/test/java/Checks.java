/** Counts and prints the calls whose answers are not the ones that are due. */
final class Checks {
    static final int NO_SUCH = -10001;
    static final int BAD_VALUE = -10002;
    static final int NOT_POSSIBLE = -10003;
    static final int LIMIT = -10004;
    static final int BAD_TEXT = -10005;
    static final int NONE = -10006;

    private final String test;
    private int calls;
    private int wrong;

    Checks(String test) {
        this.test = test;
    }

    void due(String call, long got, long want) {
        calls++;
        if (got != want) {
            wrong++;
            System.out.println(test + ": " + call + " answered " + got + ", due is " + want);
        }
    }

    void holds(String what, boolean got) {
        due(what, got ? 1 : 0, 1);
    }

    int wrong() {
        return wrong;
    }

    void end() {
        System.out.println(test + ": " + calls + " answers, " + wrong + " not as due");
        if (wrong != 0) {
            System.exit(1);
        }
    }

    static void typeAll(LuggageTracing x, String text) {
        for (int i = 0; i < text.length(); i++) {
            x.type(text.charAt(i));
        }
    }

    static void passDays(LuggageTracing x, int days) {
        for (int left = days; left > 0; left -= 400) {
            x.pass(Math.min(left, 400));
        }
    }
}
