import java.lang.reflect.InvocationTargetException;
import java.lang.reflect.Method;
import java.util.Arrays;
import java.util.Comparator;

/** Runs every test of the project: each static method without arguments of the classes below. */
public final class OwnTests {
    static final Class<?>[] CLASSES = {
        AboutTest.class, TermsTest.class, DeedsTest.class, CasesTest.class, MessagesTest.class, ClerksTest.class,
        DaysTest.class, RangesTest.class, RefusalsTest.class, ExtremesTest.class, DocumentTest.class,
        FaceTest.class, LanguageTest.class, ReadmeTest.class, ModelTest.class,
    };
    static final int PROMISES = 27;

    /** Where the class's source and its document lie, for the tests that read them. */
    static String source = "src/main/java/DunningDesk.java";
    static String document = "../shared/DOC.md";

    private OwnTests() {
    }

    public static void main(String[] args) {
        if (args.length > 0) {
            source = args[0];
        }
        if (args.length > 1) {
            document = args[1];
        }
        int passed = 0;
        int failed = 0;
        int[] perPromise = new int[PROMISES + 1];
        for (Class<?> tests : CLASSES) {
            for (Method test : testsOf(tests)) {
                perPromise[promiseOf(test)]++;
                if (passes(test)) {
                    System.out.println("PASSED " + nameOf(test));
                    passed++;
                } else {
                    failed++;
                }
            }
        }
        for (int promise = 1; promise <= PROMISES; promise++) {
            if (perPromise[promise] == 0) {
                failed++;
                System.out.println("FAILED promise " + promise + " has no test");
            }
        }
        System.out.println("own tests: " + passed + " passed, " + failed + " failed");
        System.exit(failed == 0 ? 0 : 1);
    }

    static Method[] testsOf(Class<?> tests) {
        return Arrays.stream(tests.getDeclaredMethods())
            .filter(test -> test.getParameterCount() == 0 && test.getReturnType() == void.class)
            .filter(test -> !test.isSynthetic() && !java.lang.reflect.Modifier.isPrivate(test.getModifiers()))
            .sorted(Comparator.comparing(Method::getName))
            .toArray(Method[]::new);
    }

    /** The number behind "promise" in the test's name, or 0. */
    private static int promiseOf(Method test) {
        String name = test.getName();
        return name.startsWith("promise") ? Integer.parseInt(name.substring(7, 9)) : 0;
    }

    private static String nameOf(Method test) {
        return test.getDeclaringClass().getSimpleName() + "." + test.getName();
    }

    private static boolean passes(Method test) {
        try {
            test.invoke(null);
            return true;
        } catch (InvocationTargetException e) {
            Throwable cause = e.getCause();
            System.out.println("FAILED " + nameOf(test) + ": " + cause);
            for (StackTraceElement at : cause.getStackTrace()) {
                if (at.getClassName().endsWith("Test")) {
                    System.out.println("    at line " + at.getLineNumber() + " of " + at.getFileName());
                }
            }
            return false;
        } catch (IllegalAccessException e) {
            throw new IllegalStateException(e);
        }
    }
}
