import java.util.Objects;
import java.util.function.IntFunction;

/** What the tests ask of an answer; a wrong one ends the test with an AssertionError. */
final class Checks {
    private Checks() {
    }

    interface Call {
        Object answer();
    }

    static void same(Object due, Object got) {
        if (!Objects.equals(due, got)) {
            throw new AssertionError("answered " + got + ", due is " + due);
        }
    }

    static void yes(boolean answer) {
        same(true, answer);
    }

    static void no(boolean answer) {
        same(false, answer);
    }

    /** The class itself must be thrown: one below it would be the machine's own. */
    static void refused(Class<? extends RuntimeException> due, Call call) {
        same("throws." + due.getSimpleName(), told(call));
    }

    static void taken(Call call) {
        String told = told(call);
        if (told.startsWith("throws.")) {
            throw new AssertionError("an answer is due, but it " + told);
        }
    }

    /** Each number from least to most is taken, and none beyond; the call makes a desk each time. */
    static void range(int least, int most, Class<? extends RuntimeException> refusal, IntFunction<Object> call) {
        for (int number : new int[] {least, Math.min(least + 1, most), Math.max(least, most - 1), most}) {
            taken(() -> call.apply(number));
        }
        outside(least, most, refusal, call);
    }

    /** No number below the least or above the most is taken. */
    static void outside(int least, int most, Class<? extends RuntimeException> refusal, IntFunction<Object> call) {
        for (int number : new int[] {Integer.MIN_VALUE, -1, least - 1, most + 1, Integer.MAX_VALUE}) {
            if (number < least || number > most) {
                refused(refusal, () -> call.apply(number));
            }
        }
    }

    /** The answer as a text, or the name of the exception. */
    static String told(Call call) {
        try {
            return String.valueOf(call.answer());
        } catch (RuntimeException e) {
            return "throws." + e.getClass().getSimpleName();
        }
    }
}
