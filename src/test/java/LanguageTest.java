import java.io.IOException;
import java.nio.file.Files;
import java.nio.file.Path;
import java.util.List;
import java.util.regex.Pattern;

/** What of LANGUAGE.md can be seen in the source's words. */
final class LanguageTest {
    /** Words that no rule leaves to the class. */
    private static final String[] FORBIDDEN = {
        "\\bpackage\\b", "->", "::", "\\btry\\b", "\\bcatch\\b", "\\bfinally\\b", "\\bsynchronized\\b",
        "\\bassert\\b", "\\bstatic\\s*\\{", "\\bSystem\\b(?!\\.arraycopy)", "\\bThread\\b", "\\bRandom\\b",
        "\\bMath\\.\\w*Exact\\b", "\\bequals\\b", "\\bhashCode\\b", "\\btoString\\b", "\\bgetMessage\\b",
        "\\bprotected\\b", "\\bnative\\b", "\\bvolatile\\b", "\\bObject\\b", "\\bvar\\b", "\\bnull\\b",
    };

    private LanguageTest() {
    }

    private static String source() {
        try {
            return Files.readString(Path.of(OwnTests.source));
        } catch (IOException e) {
            throw new AssertionError("the source can't be read: " + e);
        }
    }

    /** The source with its comments and texts left out. */
    private static String code() {
        return source().replaceAll("(?s)/\\*.*?\\*/", "").replaceAll("//[^\n]*", "")
            .replaceAll("\"[^\"\n]*\"", "\"\"");
    }

    static void ruleForbiddenWordsAreNotThere() {
        String code = code();
        for (String word : FORBIDDEN) {
            if (Pattern.compile(word).matcher(code).find()) {
                throw new AssertionError("the class uses " + word);
            }
        }
    }

    static void ruleOnlyTheNamedLibraryIsImported() {
        List<String> imports = code().lines().filter(line -> line.startsWith("import ")).toList();
        Checks.same("[import java.util.NoSuchElementException;]", imports.toString());
    }

    static void ruleSignsArePlain() {
        Checks.yes(source().chars().allMatch(sign -> sign == '\n' || sign >= ' ' && sign < 127));
    }

    static void ruleMethodsAreShort() {
        int longest = 0;
        int length = 0;
        for (String line : source().split("\n")) {
            boolean opens = Pattern.matches(" {4}( {4})?(public|private)[^=;]*\\{", line);
            length = opens ? 0 : length + 1;
            if (Pattern.matches(" {4}( {4})?\\}", line)) {
                longest = Math.max(longest, length);
                length = 0;
            }
        }
        Checks.yes(longest > 5 && longest <= 60);
    }
}
