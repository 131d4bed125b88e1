/** Counts checks, prints the ones that do not hold, and ends the test. */
final class Check {
    static final String INDEX = "IndexOutOfBoundsException";
    static final String ARGUMENT = "IllegalArgumentException";
    static final String STATE = "IllegalStateException";

    private int passed = 0;
    private int failed = 0;

    /** A call whose answer, as a text, is compared. */
    interface Call {
        Object answer();
    }

    /** What a call answers, or the exact class of what it throws. */
    static String answerOf(Call call) {
        try {
            return String.valueOf(call.answer());
        } catch (RuntimeException thrown) {
            return thrown.getClass().getSimpleName();
        }
    }

    void due(String what, Object due, Call call) {
        String got = answerOf(call);
        if (got.equals(String.valueOf(due))) {
            passed++;
        } else {
            failed++;
            System.out.println(what + " answered " + got + ", due is " + due);
        }
    }

    int failures() {
        return failed;
    }

    void finish() {
        System.out.println(passed + " checks hold, " + failed + " do not");
        if (failed > 0 || passed == 0) {
            System.exit(1);
        }
    }
}
