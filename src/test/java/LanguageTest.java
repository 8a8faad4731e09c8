import java.io.IOException;
import java.lang.reflect.Field;
import java.lang.reflect.Method;
import java.lang.reflect.Modifier;
import java.nio.file.Files;
import java.nio.file.Path;
import java.util.List;
import java.util.Set;
import java.util.regex.Matcher;
import java.util.regex.Pattern;

/** What of LANGUAGE.md can be seen in the source's words; FaceTest has rule 1. */
final class LanguageTest {
    private static final Set<String> TYPES = Set.of("int", "char", "boolean", "float", "double");
    private static final Set<String> EXCEPTIONS = Set.of("IllegalStateException", "IllegalArgumentException",
        "IndexOutOfBoundsException", "ArithmeticException", "NoSuchElementException");

    private LanguageTest() {
    }

    static String source() {
        try {
            return Files.readString(Path.of(OwnTests.source));
        } catch (IOException e) {
            throw new AssertionError("the source can't be read: " + e);
        }
    }

    /** The source with its comments and texts left out. */
    private static String code() {
        return source().replaceAll("(?s)/\\*.*?\\*/", "").replaceAll("//[^\n]*", "")
            .replaceAll("\"[^\"\n]*\"", "\"\"");
    }

    private static void none(String... words) {
        String code = code();
        for (String word : words) {
            if (Pattern.compile(word).matcher(code).find()) {
                throw new AssertionError("the class uses " + word);
            }
        }
    }

    /** Each place where the first pattern fits, the second one must fit, too. */
    private static void wherever(String what, String asIt) {
        Matcher places = Pattern.compile(what).matcher(code());
        Pattern due = Pattern.compile(asIt);
        int found = 0;
        while (places.find()) {
            found++;
            if (!due.matcher(places.group()).matches()) {
                throw new AssertionError("the class has " + places.group());
            }
        }
        Checks.yes(found > 0);
    }

    static void rule02NoLambdaAndNoMethodReference() {
        none("->", "::");
        Checks.same(1, code().split("public final class DunningDesk", -1).length - 1);
    }

    static void rule03OnlyTheTypesThatAreLeft() {
        for (Class<?> owner : DunningDesk.class.getDeclaredClasses()) {
            for (Field field : owner.getDeclaredFields()) {
                Class<?> type = field.getType();
                Checks.yes(TYPES.contains((type.isArray() ? type.getComponentType() : type).getSimpleName()));
            }
        }
        none("\\bObject\\b", "\\bvar\\b");
    }

    static void rule03DecimalsAreOnlyDivided() {
        wherever("[^;{}]*\\((?:float|double)\\)[^;]*;",
            "(?s)\\s*return \\((float|double)\\) [\\w.()]+ / \\(\\1\\) [\\w.]+;");
    }

    static void rule03SignsArePlain() {
        Checks.yes(source().chars().allMatch(sign -> sign == '\n' || sign >= ' ' && sign < 127));
    }

    static void rule04OnlyTheNamedLibrary() {
        List<String> imports = code().lines().filter(line -> line.startsWith("import ")).toList();
        Checks.same("[import java.util.NoSuchElementException;]", imports.toString());
        wherever("\\b[A-Z]\\w*\\.\\w+\\(", "Math\\.max\\(");
        none("\\bjava\\.(?!util\\.NoSuchElementException;)", "\\bequals\\b", "\\bhashCode\\b", "\\btoString\\b");
    }

    static void rule05StaticFieldsAreConstants() {
        int constants = 0;
        for (Field field : DunningDesk.class.getDeclaredFields()) {
            if (Modifier.isStatic(field.getModifiers())) {
                constants++;
                Checks.yes(Modifier.isFinal(field.getModifiers()));
                Checks.yes(field.getType() == int.class || field.getType() == char.class);
            }
        }
        Checks.yes(constants > 0);
        none("\\bstatic\\s*\\{");
    }

    static void rule06ExceptionsAreThrownAndNotCaught() {
        wherever("\\bthrow\\b[^;]*;", "throw new (" + String.join("|", EXCEPTIONS) + ")\\(\"\"\\);");
        none("\\btry\\b", "\\bcatch\\b", "\\bfinally\\b", "\\bsynchronized\\b", "\\bassert\\b", "\\bgetMessage\\b",
            "\\binstanceof\\b");
        String constructor = code().replaceAll("(?s).*public DunningDesk\\(\\) \\{(.*?)\\}.*", "$1");
        Checks.no(constructor.contains("throw"));
        Checks.yes(constructor.length() < 200);
    }

    static void rule09LoopsCountUpToABound() {
        wherever("\\bfor \\([^{]*\\{",
            "for \\(int (\\w+) = 0; \\1 < (size|cases\\.size|doneSize|days|place); \\1\\+\\+\\) \\{");
        none("\\bwhile\\b", "\\bdo\\b");
    }

    static void rule11MethodsAreShortAndTakeFewArguments() {
        int longest = 0;
        int length = 0;
        for (String line : source().split("\n")) {
            boolean opens = Pattern.matches(" {4}( {4})?(public|private)[^=;]*\\{", line);
            length = opens ? 0 : length + 1;
            if (Pattern.matches(" {4}( {4})?\\}", line)) {
                longest = Math.max(longest, length);
                length = 0;
            }
        }
        Checks.yes(longest > 5 && longest <= 60);
        for (Class<?> owner : DunningDesk.class.getDeclaredClasses()) {
            for (Method method : owner.getDeclaredMethods()) {
                Checks.yes(method.getParameterCount() <= 7);
            }
        }
    }

    /** Rows are made once with their desk; a call makes nothing but the exception that it throws. */
    static void rule12CallsMakeNoObjects() {
        wherever("[^;{}]*\\bnew\\b[^;]*;", "(?s)\\s*(throw new \\w+\\(\"\"\\);"
            + "|private final (int|char|boolean)\\[\\] \\w+ = new \\2\\[MOST_(CASES|MESSAGES)\\];"
            + "|(cases|messages) = new (CaseBook|MessageBook)\\(\\);)");
    }

    static void rule13NothingFromOutside() {
        none("\\bpackage\\b", "\\bSystem\\b", "\\bThread\\b", "\\bRandom\\b", "\\bnative\\b", "\\bvolatile\\b",
            "\\bprotected\\b", "Exact\\b");
    }
}
