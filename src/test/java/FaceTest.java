import java.lang.reflect.Constructor;
import java.lang.reflect.Field;
import java.lang.reflect.Method;
import java.lang.reflect.Modifier;
import java.util.Arrays;
import java.util.Set;
import java.util.TreeSet;
import java.util.stream.Collectors;

/** That the class shows the face of the document, and nothing else (LANGUAGE.md, rules 1, 2, 5 and 11). */
final class FaceTest {
    private static final String[] FACE = {
        "boolean awaitNote(int) IndexOutOfBoundsException IllegalStateException",
        "boolean finish(int) IndexOutOfBoundsException IllegalStateException",
        "char kind(int) IndexOutOfBoundsException",
        "char state(int) IndexOutOfBoundsException",
        "double meanAmount() ArithmeticException",
        "float doneShare() ArithmeticException",
        "int amount(int) IndexOutOfBoundsException",
        "int clerk(int) IndexOutOfBoundsException NoSuchElementException",
        "int count(char) IllegalArgumentException",
        "int day()",
        "int handBack(int) IndexOutOfBoundsException IllegalStateException",
        "int has(int) IllegalArgumentException",
        "int letters(int) IndexOutOfBoundsException",
        "int lettersByMessages(int) IndexOutOfBoundsException",
        "int nextReminder(int) IndexOutOfBoundsException NoSuchElementException",
        "int open(int,int) IllegalArgumentException IllegalStateException",
        "int pass(int) IllegalArgumentException",
        "int pause(int,int) IndexOutOfBoundsException IllegalArgumentException IllegalStateException",
        "int post(int,int,char,int,int,int) IllegalArgumentException IllegalStateException",
        "int ready(int) IllegalArgumentException",
        "int readyAt(int) IndexOutOfBoundsException IllegalStateException",
        "int readyAtPlace(int,int) IllegalArgumentException NoSuchElementException",
        "int revive(int) IndexOutOfBoundsException IllegalStateException",
        "int take(int,int) IllegalArgumentException IllegalStateException NoSuchElementException",
        "int tries(int) IndexOutOfBoundsException",
        "int withKey(int) NoSuchElementException",
    };

    private FaceTest() {
    }

    private static String names(Class<?>[] types, String between) {
        return Arrays.stream(types).map(Class::getSimpleName).collect(Collectors.joining(between));
    }

    private static String told(Method method) {
        String head = method.getReturnType().getSimpleName() + " " + method.getName()
            + "(" + names(method.getParameterTypes(), ",") + ")";
        return (head + " " + names(method.getExceptionTypes(), " ")).trim();
    }

    static void ruleFaceIsThatOfTheDocument() {
        Set<String> shown = new TreeSet<>();
        Set<String> shownNames = new TreeSet<>();
        Set<String> hiddenNames = new TreeSet<>();
        for (Method method : DunningDesk.class.getDeclaredMethods()) {
            if (Modifier.isPrivate(method.getModifiers())) {
                hiddenNames.add(method.getName());
            } else {
                Checks.same(Modifier.PUBLIC, method.getModifiers());
                shown.add(told(method));
                shownNames.add(method.getName());
            }
        }
        Checks.same(String.join("\n", new TreeSet<>(Arrays.asList(FACE))), String.join("\n", shown));
        for (Class<?> inside : DunningDesk.class.getDeclaredClasses()) {
            for (Method method : inside.getDeclaredMethods()) {
                hiddenNames.add(method.getName());
            }
        }
        hiddenNames.retainAll(shownNames);
        Checks.same("[]", hiddenNames.toString());
    }

    static void ruleClassIsFinalWithOneConstructor() {
        Checks.same(Modifier.PUBLIC | Modifier.FINAL, DunningDesk.class.getModifiers());
        Constructor<?>[] constructors = DunningDesk.class.getDeclaredConstructors();
        Checks.same(1, constructors.length);
        Checks.same(Modifier.PUBLIC, constructors[0].getModifiers());
        Checks.same(0, constructors[0].getParameterCount());
        Checks.same(0, constructors[0].getExceptionTypes().length);
    }

    static void ruleFieldsArePrivateAndFew() {
        checkFields(DunningDesk.class);
        Checks.yes(DunningDesk.class.getDeclaredClasses().length <= 11);
        for (Class<?> inside : DunningDesk.class.getDeclaredClasses()) {
            Checks.yes(Modifier.isStatic(inside.getModifiers()));
            Checks.no(Modifier.isPublic(inside.getModifiers()));
            checkFields(inside);
        }
    }

    private static void checkFields(Class<?> owner) {
        int own = 0;
        for (Field field : owner.getDeclaredFields()) {
            Checks.yes(Modifier.isPrivate(field.getModifiers()));
            if (Modifier.isStatic(field.getModifiers())) {
                Checks.yes(Modifier.isFinal(field.getModifiers()));
            } else {
                own++;
            }
        }
        Checks.yes(own <= 20);
    }
}
