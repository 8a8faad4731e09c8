import java.io.IOException;
import java.lang.reflect.Method;
import java.nio.file.Files;
import java.nio.file.Path;
import java.util.ArrayList;
import java.util.Arrays;
import java.util.LinkedHashMap;
import java.util.List;
import java.util.Map;

/** That the tests leave out no word of what the document binds the class to, and quote it as it stands. */
final class DocumentTest {
    private DocumentTest() {
    }

    /**
     * The first text, the terms and each promise, behind what the names of its tests begin with. FaceTest
     * has the face; what is not promised needs no test.
     */
    private static Map<String, String> sections() {
        Map<String, String> sections = new LinkedHashMap<>();
        for (String part : text().split("(?m)^## ")) {
            int end = part.indexOf('\n');
            String heading = end < 0 ? part : part.substring(0, end);
            String body = end < 0 ? "" : part.substring(end).strip();
            if (heading.equals("What it is")) {
                sections.put("about", onOneLine(body));
            } else if (heading.equals("Terms")) {
                sections.put("terms", onOneLine(body));
            } else if (heading.startsWith("Promise ")) {
                int number = Integer.parseInt(heading.substring(8, heading.indexOf(':')));
                // FaceTest has the signature.
                sections.put(String.format("promise%02d", number), onOneLine(body.replaceFirst("^`[^`]*`: ", "")));
            }
        }
        return sections;
    }

    static String text() {
        try {
            return Files.readString(Path.of(OwnTests.document));
        } catch (IOException e) {
            throw new AssertionError("the document can't be read: " + e);
        }
    }

    private static String onOneLine(String text) {
        return text.replaceAll("\\s+", " ");
    }

    private static List<Method> quotingTests(String section) {
        List<Method> quoting = new ArrayList<>();
        for (Class<?> tests : OwnTests.CLASSES) {
            for (Method test : OwnTests.testsOf(tests)) {
                if (test.isAnnotationPresent(Says.class) && test.getName().startsWith(section)) {
                    quoting.add(test);
                }
            }
        }
        return quoting;
    }

    /** The section with a star for each sign that a test quotes. */
    private static String unquoted(String section, String text) {
        char[] left = text.toCharArray();
        for (Method test : quotingTests(section)) {
            String quote = test.getAnnotation(Says.class).value();
            for (int at = text.indexOf(quote); at >= 0; at = text.indexOf(quote, at + 1)) {
                Arrays.fill(left, at, at + quote.length(), '*');
            }
        }
        return new String(left);
    }

    static void ruleAllSectionsAreRead() {
        Checks.same(2 + OwnTests.PROMISES, sections().size());
        List<String> others = new ArrayList<>();
        for (String part : text().split("(?m)^## ")) {
            String heading = part.substring(0, part.indexOf('\n'));
            if (!heading.startsWith("Promise ")) {
                others.add(heading);
            }
        }
        Checks.same("[# DunningDesk, What it is, The public face, Terms, Not promised]", others.toString());
    }

    static void ruleEachQuoteStandsInItsSection() {
        List<String> wrong = new ArrayList<>();
        int quotes = 0;
        for (Map.Entry<String, String> section : sections().entrySet()) {
            for (Method test : quotingTests(section.getKey())) {
                quotes++;
                if (!section.getValue().contains(test.getAnnotation(Says.class).value())) {
                    wrong.add(test.getName());
                }
            }
        }
        Checks.same("[]", wrong.toString());
        Checks.same(quotes, quotingTests("").size());
    }

    static void ruleEachWordOfTheDocumentHasATest() {
        StringBuilder without = new StringBuilder();
        for (Map.Entry<String, String> section : sections().entrySet()) {
            for (String rest : unquoted(section.getKey(), section.getValue()).split("\\*+")) {
                if (rest.chars().anyMatch(Character::isLetterOrDigit)) {
                    without.append('\n').append(section.getKey()).append(": ").append(rest.strip());
                }
            }
        }
        Checks.same("", without.toString());
    }
}
