/** Counts and prints what is not as it is due; a test ends with 1 if there was anything. */
final class Checks {
    /** A call of the class under test; its answer as a number (a boolean counts 1 or 0). */
    interface Call {
        long answer();
    }

    /** A call that is asked for a place, a step or a name. */
    interface PlaceCall {
        long answer(int place);
    }

    static final String INDEX = "IndexOutOfBoundsException";
    static final String ARGUMENT = "IllegalArgumentException";
    static final String STATE = "IllegalStateException";

    private final String name;
    private String sentence = "";
    private int checked;
    private int wrong;

    Checks(String name) {
        this.name = name;
    }

    /** The sentence of the document that the checks from here on are about; it is told with what is wrong. */
    void says(String words) {
        sentence = words;
    }

    void due(String what, long got, long want) {
        due(what, "" + got, "" + want);
    }

    void due(String what, boolean got, boolean want) {
        due(what, got ? 1 : 0, want ? 1 : 0);
    }

    void due(String what, String got, String want) {
        checked++;
        if (!got.equals(want)) {
            wrong++;
            System.out.println(name + ": " + what + " answered " + got + ", due is " + want);
            if (!sentence.isEmpty()) {
                System.out.println("    the document: " + sentence);
            }
        }
    }

    void refused(String what, String exception, Call call) {
        due(what, outcome(call), "throws " + exception);
    }

    /** The answer as a text, or what was thrown; the exact class, as none of its heirs is due. */
    static String outcome(Call call) {
        try {
            return "" + call.answer();
        } catch (RuntimeException e) {
            return "throws " + e.getClass().getSimpleName();
        }
    }

    void end() {
        System.out.println(name + ": " + checked + " checked, " + wrong + " wrong");
        if (wrong > 0) {
            System.exit(1);
        }
    }
}
