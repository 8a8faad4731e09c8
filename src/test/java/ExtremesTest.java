import java.lang.reflect.InvocationTargetException;
import java.lang.reflect.Method;
import java.util.Arrays;
import java.util.Comparator;
import java.util.Random;
import java.util.function.Supplier;

/**
 * Calls with arguments far out and at every edge, on desks of all kinds, and far more calls than an object
 * is used for: none throws but what it documents.
 */
final class ExtremesTest {
    private static final int[] NUMBERS = {
        Integer.MIN_VALUE, Integer.MIN_VALUE + 1, -1000, -1, 0, 1, 2, 3, 4, 7, 8, 9, 30, 31, 60, 61, 79, 80, 81,
        998, 999, 1000, 1001, 1072, 9999, 10000, Integer.MAX_VALUE - 1, Integer.MAX_VALUE,
    };
    private static final char[] SIGNS = {0, 'd', 'h', 'n', 'p', 'r', 't', 'w', 'x', 'X', '\uffff'};

    private ExtremesTest() {
    }

    static void ruleOneArgumentFarOut() {
        for (Supplier<DunningDesk> start : Desks.ofAllKinds()) {
            for (Method method : DunningDesk.class.getMethods()) {
                if (method.getDeclaringClass() == DunningDesk.class) {
                    eachArgument(start, method);
                }
            }
        }
    }

    static void ruleTwoArgumentsFarOut() {
        for (Supplier<DunningDesk> start : Desks.ofAllKinds()) {
            for (Method method : DunningDesk.class.getMethods()) {
                if (method.getDeclaringClass() == DunningDesk.class && method.getParameterCount() == 2) {
                    eachPair(start.get(), start, method);
                }
            }
        }
    }

    /** What later calls answer is not looked at; but the machine must not throw in them, either. */
    @Says("what later calls answer is free.")
    static void aboutLaterCallsThrowOnlyWhatIsDocumented() {
        Method[] calls = Arrays.stream(DunningDesk.class.getMethods())
            .filter(method -> method.getDeclaringClass() == DunningDesk.class)
            .sorted(Comparator.comparing(Method::getName)).toArray(Method[]::new);
        for (int seed = 0; seed < 20; seed++) {
            Random random = new Random(seed);
            DunningDesk desk = new DunningDesk();
            for (int call = 0; call < 10000; call++) {
                Method method = calls[random.nextInt(calls.length)];
                answers(desk, method, anyArguments(method.getParameterTypes(), random));
            }
        }
    }

    private static Object[] anyArguments(Class<?>[] types, Random random) {
        Object[] arguments = new Object[types.length];
        for (int place = 0; place < types.length; place++) {
            arguments[place] = types[place] == char.class ? (Object) SIGNS[random.nextInt(SIGNS.length)]
                : (Object) random.nextInt(random.nextBoolean() ? 4 : 90);
        }
        return arguments;
    }

    private static void eachArgument(Supplier<DunningDesk> start, Method method) {
        Class<?>[] types = method.getParameterTypes();
        for (int place = 0; place < types.length; place++) {
            int values = types[place] == char.class ? SIGNS.length : NUMBERS.length;
            for (int i = 0; i < values; i++) {
                Object[] arguments = ordinary(types);
                arguments[place] = types[place] == char.class ? (Object) SIGNS[i] : (Object) NUMBERS[i];
                answers(start.get(), method, arguments);
            }
        }
    }

    /** Refused calls change nothing, so a new desk is needed only behind a call that is taken. */
    private static void eachPair(DunningDesk first, Supplier<DunningDesk> start, Method method) {
        DunningDesk desk = first;
        int calls = 0;
        for (int one : NUMBERS) {
            for (int other : NUMBERS) {
                calls++;
                if (answers(desk, method, new Object[] {one, other}) || calls > 300) {
                    desk = start.get();
                    calls = 0;
                }
            }
        }
    }

    private static Object[] ordinary(Class<?>[] types) {
        Object[] arguments = new Object[types.length];
        for (int place = 0; place < types.length; place++) {
            arguments[place] = types[place] == char.class ? (Object) 'p' : (Object) 1;
        }
        return arguments;
    }

    /** Whether there was an answer; an exception must be one of those that the method names, and no other class. */
    private static boolean answers(DunningDesk desk, Method method, Object[] arguments) {
        try {
            method.invoke(desk, arguments);
            return true;
        } catch (InvocationTargetException e) {
            if (!Arrays.asList(method.getExceptionTypes()).contains(e.getCause().getClass())) {
                throw new AssertionError(method.getName() + Arrays.toString(arguments) + " throws " + e.getCause());
            }
            return false;
        } catch (IllegalAccessException e) {
            throw new IllegalStateException(e);
        }
    }
}
