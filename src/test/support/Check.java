/** Counts checks, prints the ones that do not hold, and ends the test. */
final class Check {
    static final String INDEX = "IndexOutOfBoundsException";
    static final String ARGUMENT = "IllegalArgumentException";
    static final String STATE = "IllegalStateException";

    private String about = "";
    private int passed = 0;
    private int failed = 0;

    /** A call whose answer, as a text, is compared. */
    interface Call {
        Object answer();
    }

    /** What a call answers, or the exact class of what it throws. */
    static String answerOf(Call call) {
        try {
            return String.valueOf(call.answer());
        } catch (RuntimeException thrown) {
            return thrown.getClass().getSimpleName();
        }
    }

    /** What stands ahead of all that is printed from here on. */
    void about(String what) {
        about = what;
    }

    void due(String what, Object due, Call call) {
        String got = answerOf(call);
        if (got.equals(String.valueOf(due))) {
            passed++;
        } else {
            fail(what + " answered " + got + ", due is " + due);
        }
    }

    /** What an object made for this call alone answers. */
    void due(String what, Object due, Hems hems, Hems.Asked call) {
        HemSuffixes made = hems.made();
        due(what + " on " + hems, due, () -> call.of(made));
    }

    /** The call throws this, and behind it the object is as one that was never asked. */
    void refused(String what, String thrown, Hems hems, Hems.Asked call) {
        HemSuffixes asked = hems.made();
        due(what + " on " + hems, thrown, () -> call.of(asked));
        asBefore(what, hems, asked);
    }

    /** The call answers, and behind it the object is as one that was never asked. */
    void dueAndNoChange(String what, Object due, Hems hems, Hems.Asked call) {
        HemSuffixes asked = hems.made();
        due(what + " on " + hems, due, () -> call.of(asked));
        asBefore(what, hems, asked);
    }

    private void asBefore(String what, Hems hems, HemSuffixes asked) {
        HemSuffixes twin = hems.made();
        due(what + " on " + hems + ", and then all that it tells", Hems.told(twin), () -> Hems.told(asked));
        due(what + " on " + hems + ", and then what it does", Hems.goneOn(twin), () -> Hems.goneOn(asked));
    }

    void fail(String what) {
        failed++;
        System.out.println(about + what);
    }

    int checks() {
        return passed + failed;
    }

    int failures() {
        return failed;
    }

    void finish() {
        System.out.println(passed + " checks hold, " + failed + " do not");
        if (failed > 0 || passed == 0) {
            System.exit(1);
        }
    }
}
