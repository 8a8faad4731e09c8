import java.io.IOException;
import java.net.URL;
import java.net.URLClassLoader;
import java.nio.file.Files;
import java.nio.file.Path;
import java.util.Arrays;
import java.util.Comparator;
import java.util.List;
import java.util.TreeSet;
import java.util.regex.Matcher;
import java.util.regex.Pattern;
import java.util.stream.Stream;
import javax.tools.JavaCompiler;
import javax.tools.ToolProvider;

/** That README.md shows how to use the class and run its tests as they are. */
final class ReadmeTest {
    private ReadmeTest() {
    }

    private static String readme() {
        return read(Path.of("README.md"));
    }

    private static String read(Path file) {
        try {
            return Files.readString(file);
        } catch (IOException e) {
            throw new AssertionError(file + " can't be read: " + e);
        }
    }

    /** The lines of the block of this language; there must be one. */
    private static List<String> block(String language) {
        Matcher block = Pattern.compile("(?s)\n```" + language + "\n(.*?)\n```\n").matcher(readme());
        Checks.yes(block.find());
        return block.group(1).lines().toList();
    }

    /** The example as a class that tells which of the answers in its comments are not those of the desk. */
    private static String program() {
        StringBuilder program = new StringBuilder("public final class Example {\n"
            + "    public static String wrong() {\n        String wrong = \"\";\n");
        Pattern answered = Pattern.compile("(desk\\..*); +// (true|false|'.'|[0-9.]+f?)\\b?.*");
        int answers = 0;
        for (String line : block("java")) {
            Matcher call = answered.matcher(line);
            if (call.matches()) {
                answers++;
                program.append("        wrong += ((Object) ").append(call.group(2)).append(").equals(")
                    .append(call.group(1)).append(") ? \"\" : \"answer ").append(answers).append(" \";\n");
            } else {
                Checks.no(line.startsWith("desk."));
                program.append("        ").append(line).append('\n');
            }
        }
        Checks.yes(answers > 15);
        return program.append("        return wrong;\n    }\n}\n").toString();
    }

    static void ruleExampleAnswersWhatItSays() throws IOException, ReflectiveOperationException {
        Path folder = Files.createTempDirectory("example");
        try {
            Path source = Files.writeString(folder.resolve("Example.java"), program());
            JavaCompiler compiler = ToolProvider.getSystemJavaCompiler();
            Checks.no(compiler == null);
            Checks.same(0, compiler.run(null, null, null, "-cp", System.getProperty("java.class.path"), "-d",
                folder.toString(), source.toString()));
            URL[] place = {folder.toUri().toURL()};
            try (URLClassLoader loader = new URLClassLoader(place, ReadmeTest.class.getClassLoader())) {
                Checks.same("", loader.loadClass("Example").getMethod("wrong").invoke(null));
            }
        } finally {
            remove(folder);
        }
    }

    private static void remove(Path folder) throws IOException {
        try (Stream<Path> files = Files.walk(folder)) {
            for (Path file : files.sorted(Comparator.reverseOrder()).toList()) {
                Files.delete(file);
            }
        }
    }

    static void ruleEachCallIsNamed() {
        TreeSet<String> named = new TreeSet<>();
        readme().lines().filter(line -> line.startsWith("| `")).forEach(line -> {
            Matcher name = Pattern.compile("`(\\w+)`").matcher(line.substring(0, line.indexOf('|', 1)));
            while (name.find()) {
                Checks.yes(named.add(name.group(1)));
            }
        });
        TreeSet<String> calls = new TreeSet<>();
        Arrays.stream(DunningDesk.class.getMethods())
            .filter(method -> method.getDeclaringClass() == DunningDesk.class)
            .forEach(method -> calls.add(method.getName()));
        Checks.same(calls, named);
    }

    static void ruleEachClassOfTestsIsNamed() throws IOException {
        String tests = readme().substring(readme().indexOf("\n## Tests\n"));
        TreeSet<String> run = new TreeSet<>();
        for (Class<?> own : OwnTests.CLASSES) {
            Checks.yes(tests.contains("`" + own.getName() + "`"));
            run.add(own.getName() + ".java");
        }
        TreeSet<String> written = new TreeSet<>();
        try (Stream<Path> files = Files.list(Path.of("src/test/java"))) {
            files.map(file -> file.getFileName().toString()).filter(name -> name.endsWith("Test.java"))
                .forEach(written::add);
        }
        Checks.same(written, run);
    }

    static void ruleCommandsNameWhatIsThere() {
        List<String> commands = block("sh");
        Checks.same(2, commands.size());
        for (String command : commands) {
            for (String word : command.split(" ")) {
                if (word.contains("/")) {
                    Checks.yes(Files.exists(Path.of(word.replace("/*.java", ""))));
                }
            }
        }
        Checks.yes(commands.get(1).startsWith("java -cp build " + OwnTests.class.getName() + " "));
        Checks.yes(Files.isExecutable(Path.of(".ci/run")));
    }
}
