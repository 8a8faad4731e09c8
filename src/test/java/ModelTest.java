import java.lang.reflect.InvocationTargetException;
import java.lang.reflect.Method;
import java.util.ArrayList;
import java.util.Arrays;
import java.util.HashMap;
import java.util.List;
import java.util.Map;
import java.util.Random;

/** Long runs of calls, made up from fixed seeds: the class must answer each as the model does. */
final class ModelTest {
    private static final int CALLS = 512;
    private static final int[] EXTREMES = {
        Integer.MIN_VALUE, -1, 0, 1, 2, 3, 4, 7, 8, 30, 31, 60, 61, 79, 80, 999, 1000, 9999, 10000,
        Integer.MAX_VALUE,
    };
    private static final String[] LOOKS = {
        "amount", "letters", "lettersByMessages", "nextReminder", "withKey", "state", "kind", "tries",
        "readyAt", "ready", "readyAtPlace", "clerk", "has", "day", "count", "doneShare", "meanAmount",
    };
    private static final Map<String, Method> ON_DESK = callsOf(DunningDesk.class);
    private static final Map<String, Method> ON_MODEL = callsOf(Model.class);

    private final Random random;
    private final String[] deeds;
    private final int mostDelay;
    private final int mostPassed;
    private final int lookShare;

    private ModelTest(long seed, int lookShare, int mostDelay, int mostPassed, String... deeds) {
        this.random = new Random(seed);
        this.lookShare = lookShare;
        this.mostDelay = mostDelay;
        this.mostPassed = mostPassed;
        this.deeds = deeds;
    }

    static void ruleModelHasTheSameCalls() {
        Checks.same(ON_DESK.keySet(), ON_MODEL.keySet());
    }

    static void runsOfEverything() {
        for (int seed = 0; seed < 400; seed++) {
            new ModelTest(seed, 40, 10, 5, "open", "pause", "awaitNote", "post", "post", "post", "take", "take",
                "finish", "finish", "handBack", "revive", "pass").run();
        }
    }

    static void runsOfManyMessages() {
        for (int seed = 1000; seed < 1200; seed++) {
            new ModelTest(seed, 40, 30, 2, "open", "post", "post", "post", "post", "post", "post", "take",
                "take", "finish", "handBack", "revive", "pass").run();
        }
    }

    static void runsOfManyDays() {
        for (int seed = 2000; seed < 2200; seed++) {
            new ModelTest(seed, 40, 5, 30, "open", "post", "take", "take", "finish", "handBack", "pause",
                "pass", "pass", "pass").run();
        }
    }

    static void runsOfTriesAndDeaths() {
        for (int seed = 3000; seed < 3200; seed++) {
            new ModelTest(seed, 40, 1, 4, "open", "post", "take", "take", "take", "handBack", "handBack",
                "revive", "finish", "pass", "pass").run();
        }
    }

    static void runsOfRemindersAlone() {
        for (int seed = 4000; seed < 4200; seed++) {
            new ModelTest(seed, 40, 1, 3, "open", "take", "take", "take", "take", "take", "finish", "finish",
                "finish", "finish", "finish", "pass", "pass", "pass", "pass", "pause", "awaitNote", "post",
                "post").run();
        }
    }

    private static Map<String, Method> callsOf(Class<?> owner) {
        Map<String, Method> calls = new HashMap<>();
        for (Method method : owner.getDeclaredMethods()) {
            if (java.lang.reflect.Modifier.isPublic(method.getModifiers())) {
                calls.put(method.getName(), method);
            }
        }
        return calls;
    }

    private void run() {
        DunningDesk desk = new DunningDesk();
        Model model = new Model();
        for (int call = 1; call <= CALLS; call++) {
            String name = random.nextInt(100) < lookShare ? oneOf(LOOKS) : oneOf(deeds);
            Object[] arguments = argumentsFor(name, ON_DESK.get(name).getParameterTypes(), model);
            String due = answer(ON_MODEL.get(name), model, arguments);
            String got = answer(ON_DESK.get(name), desk, arguments);
            if (!due.equals(got)) {
                throw new AssertionError("call " + call + ": " + name + Arrays.toString(arguments)
                    + " answered " + got + ", due is " + due);
            }
        }
    }

    private static String answer(Method method, Object target, Object[] arguments) {
        try {
            return String.valueOf(method.invoke(target, arguments));
        } catch (InvocationTargetException e) {
            return "throws." + e.getCause().getClass().getName();
        } catch (IllegalAccessException e) {
            throw new IllegalStateException(e);
        }
    }

    private Object[] argumentsFor(String name, Class<?>[] types, Model model) {
        Object[] arguments = new Object[types.length];
        for (int i = 0; i < types.length; i++) {
            if (types[i] == char.class) {
                arguments[i] = name.equals("post") ? sign("ppppppnnnnr") : sign("hwtdxhwtdxpn\uffff");
            } else {
                arguments[i] = random.nextInt(60) == 0
                    ? EXTREMES[random.nextInt(EXTREMES.length)] : number(name, i, model);
            }
        }
        return arguments;
    }

    /** A number that mostly is in range, and mostly fits the state: else the calls would all be refused. */
    private int number(String name, int place, Model model) {
        switch (name) {
            case "open":
                return place == 0 ? 1 + random.nextInt(random.nextBoolean() ? 40 : 9999)
                    : random.nextInt(random.nextBoolean() ? 30 : 1000);
            case "post":
                int[] most = {3, random.nextBoolean() ? 1000 : 60, 0, random.nextBoolean() ? 3 : 8, 30,
                    mostDelay + 1};
                return random.nextInt(most[place]);
            case "pause":
                return place == 0 ? random.nextInt(8) : 1 + random.nextInt(random.nextBoolean() ? 8 : 60);
            case "amount": case "letters": case "lettersByMessages": case "nextReminder": case "awaitNote":
                return random.nextInt(8);
            case "take":
                return random.nextInt(place == 0 ? 4 : 3);
            case "ready": case "has":
                return random.nextInt(4);
            case "readyAtPlace":
                return random.nextInt(place == 0 ? 3 : 6);
            case "pass":
                return 1 + random.nextInt(mostPassed);
            case "withKey":
                return random.nextBoolean() ? random.nextInt(60)
                    : 1000 + 10 * random.nextInt(8) + random.nextInt(4);
            case "finish": case "handBack":
                return messageIn('t', model);
            case "revive":
                return messageIn('x', model);
            default:
                return random.nextInt(random.nextBoolean() ? 12 : 80);
        }
    }

    /** Mostly one of the messages in the state, now and then any number. */
    private int messageIn(char state, Model model) {
        List<Integer> found = new ArrayList<>();
        for (int message = 0; message < model.messageCount(); message++) {
            if (model.state(message) == state) {
                found.add(message);
            }
        }
        return found.isEmpty() || random.nextInt(8) == 0 ? random.nextInt(80)
            : found.get(random.nextInt(found.size()));
    }

    private char sign(String signs) {
        return signs.charAt(random.nextInt(signs.length()));
    }

    private String oneOf(String[] names) {
        return names[random.nextInt(names.length)];
    }
}
