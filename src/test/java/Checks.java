import java.util.Objects;

/** What the tests ask of an answer; a wrong one ends the test with an AssertionError. */
final class Checks {
    private Checks() {
    }

    interface Call {
        Object answer();
    }

    static void same(Object due, Object got) {
        if (!Objects.equals(due, got)) {
            throw new AssertionError("answered " + got + ", due is " + due);
        }
    }

    static void yes(boolean answer) {
        same(true, answer);
    }

    static void no(boolean answer) {
        same(false, answer);
    }

    /** The class itself must be thrown: one below it would be the machine's own. */
    static void refused(Class<? extends RuntimeException> due, Call call) {
        same("throws." + due.getSimpleName(), told(call));
    }

    /** The answer as a text, or the name of the exception. */
    static String told(Call call) {
        try {
            return String.valueOf(call.answer());
        } catch (RuntimeException e) {
            return "throws." + e.getClass().getSimpleName();
        }
    }
}
