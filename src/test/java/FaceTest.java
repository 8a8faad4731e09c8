import java.lang.reflect.Constructor;
import java.lang.reflect.Field;
import java.lang.reflect.Method;
import java.lang.reflect.Modifier;
import java.util.ArrayList;
import java.util.Arrays;
import java.util.List;
import java.util.Set;
import java.util.TreeSet;
import java.util.regex.Matcher;
import java.util.regex.Pattern;
import java.util.stream.Collectors;

/** That the class shows the face that the document writes, and nothing else (LANGUAGE.md, rules 1, 2, 5 and 11). */
final class FaceTest {
    private FaceTest() {
    }

    /** What stands behind "public" in each line of the document's face, the constructor first. */
    private static List<String> documented() {
        String face = DocumentTest.text().replaceFirst("(?s).*?\n## The public face\n(.*?)\n## .*", "$1");
        List<String> signatures = new ArrayList<>();
        Matcher line = Pattern.compile("(?m)^ {4}public (.*);$").matcher(face);
        while (line.find()) {
            signatures.add(line.group(1));
        }
        return signatures;
    }

    /** As told(Method): without the names of the arguments. */
    private static String told(String signature) {
        Matcher parts = Pattern.compile("(\\w+ \\w+)\\((.*)\\)(?: throws (.*))?").matcher(signature);
        Checks.yes(parts.matches());
        String types = parts.group(2).replaceAll(" \\w+(,|$)", "$1").replace(" ", "");
        String exceptions = parts.group(3) == null ? "" : " " + parts.group(3).replace(",", "");
        return parts.group(1) + "(" + types + ")" + exceptions;
    }

    private static String names(Class<?>[] types, String between) {
        return Arrays.stream(types).map(Class::getSimpleName).collect(Collectors.joining(between));
    }

    private static String told(Method method) {
        String head = method.getReturnType().getSimpleName() + " " + method.getName()
            + "(" + names(method.getParameterTypes(), ",") + ")";
        return (head + " " + names(method.getExceptionTypes(), " ")).trim();
    }

    static void ruleFaceIsThatOfTheDocument() {
        Set<String> shown = new TreeSet<>();
        Set<String> shownNames = new TreeSet<>();
        Set<String> hiddenNames = new TreeSet<>();
        for (Method method : DunningDesk.class.getDeclaredMethods()) {
            if (Modifier.isPrivate(method.getModifiers())) {
                hiddenNames.add(method.getName());
            } else {
                Checks.same(Modifier.PUBLIC, method.getModifiers());
                shown.add(told(method));
                shownNames.add(method.getName());
            }
        }
        Set<String> due = new TreeSet<>();
        for (String signature : documented().subList(1, documented().size())) {
            due.add(told(signature));
        }
        Checks.same(String.join("\n", due), String.join("\n", shown));
        Checks.same(26, shown.size());
        for (Class<?> inside : DunningDesk.class.getDeclaredClasses()) {
            for (Method method : inside.getDeclaredMethods()) {
                hiddenNames.add(method.getName());
            }
        }
        hiddenNames.retainAll(shownNames);
        Checks.same("[]", hiddenNames.toString());
    }

    static void ruleArgumentsBearTheNamesOfTheDocument() {
        String source = LanguageTest.source().replaceAll("\\s+", " ");
        for (String signature : documented()) {
            Checks.same(signature, source.contains(" public " + signature + " {") ? signature : "not in the source");
        }
    }

    static void rulePromisesAreThoseOfTheFace() {
        List<String> promised = new ArrayList<>();
        Matcher promise = Pattern.compile("(?m)^## Promise \\d+: .*\n\n`([^`]*)`: ").matcher(DocumentTest.text());
        while (promise.find()) {
            promised.add(promise.group(1));
        }
        Checks.same(String.join("\n", documented()), String.join("\n", promised));
        Checks.same(OwnTests.PROMISES, promised.size());
    }

    static void ruleClassIsFinalWithOneConstructor() {
        Checks.same(Modifier.PUBLIC | Modifier.FINAL, DunningDesk.class.getModifiers());
        Constructor<?>[] constructors = DunningDesk.class.getDeclaredConstructors();
        Checks.same(1, constructors.length);
        Checks.same(Modifier.PUBLIC, constructors[0].getModifiers());
        Checks.same(0, constructors[0].getParameterCount());
        Checks.same(0, constructors[0].getExceptionTypes().length);
    }

    static void ruleFieldsArePrivateAndFew() {
        checkFields(DunningDesk.class);
        Checks.yes(DunningDesk.class.getDeclaredClasses().length <= 11);
        for (Class<?> inside : DunningDesk.class.getDeclaredClasses()) {
            Checks.yes(Modifier.isStatic(inside.getModifiers()));
            Checks.no(Modifier.isPublic(inside.getModifiers()));
            checkFields(inside);
        }
    }

    private static void checkFields(Class<?> owner) {
        int own = 0;
        for (Field field : owner.getDeclaredFields()) {
            Checks.yes(Modifier.isPrivate(field.getModifiers()));
            if (Modifier.isStatic(field.getModifiers())) {
                Checks.yes(Modifier.isFinal(field.getModifiers()));
            } else {
                own++;
            }
        }
        Checks.yes(own <= 20);
    }
}
