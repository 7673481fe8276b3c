import java.io.IOException;
import java.net.URL;
import java.net.URLClassLoader;
import java.nio.file.Files;
import java.nio.file.Path;
import java.util.ArrayList;
import java.util.List;
import java.util.Map;
import java.util.regex.Matcher;
import java.util.regex.Pattern;
import javax.tools.ToolProvider;

/**
 * The example of README.md. A line that keeps an answer tells it in its comment, ahead of a
 * colon or alone; the example is compiled as it stands, run, and held to those answers.
 */
public final class ReadmeTest {

    private static final Check CHECK = new Check("ReadmeTest");
    private static final Pattern KEEPS = Pattern.compile("(int|boolean) (\\w+) = .*");
    private static final Pattern TELLS = Pattern.compile("(int|boolean) (\\w+) = .*; +// (true|false|-?\\d+)(:.*)?");
    private static final String MACHINE = "StepMachine x = new StepMachine();";

    private ReadmeTest() {
    }

    public static void main(String[] args) throws Exception {
        String readme = Document.read("readme", "README.md");
        String[] example = exampleIn(readme);
        Map<?, ?> answers = answersOf(example);
        for (String line : example) {
            dueAnswer(line, answers);
        }
        callsAreTold(readme);
        testsAreTold(readme);
        CHECK.end();
    }

    private static String[] exampleIn(String readme) {
        int from = readme.indexOf("```java\n");
        int to = readme.indexOf("\n```", from + 1);
        CHECK.due("README.md has one example", from >= 0 && to > from && from == readme.lastIndexOf("```java\n"), true);
        String[] lines = from >= 0 && to > from ? readme.substring(from + 8, to).split("\n") : new String[0];
        CHECK.due("the example makes a machine", List.of(lines).contains(MACHINE), true);
        return lines;
    }

    private static void dueAnswer(String line, Map<?, ?> answers) {
        if (!KEEPS.matcher(line).matches()) {
            return;
        }
        Matcher m = TELLS.matcher(line);
        boolean tells = m.matches();
        CHECK.due("tells its answer: " + line, tells, true);
        if (tells) {
            String got = String.valueOf(answers.get(m.group(2)));
            CHECK.due(line + " (answered " + got + ")", got.equals(m.group(3)), true);
        }
    }

    private static Map<?, ?> answersOf(String[] example) throws Exception {
        Path folder = Files.createTempDirectory("readme");
        Path source = folder.resolve("Example.java");
        Files.writeString(source, program(example));
        try {
            int code = ToolProvider.getSystemJavaCompiler().run(null, null, null,
                    "-Xlint:all", "-Werror", "-cp", System.getProperty("java.class.path"), "-d", folder.toString(), source.toString());
            CHECK.due("the example compiles", code, 0);
            return code == 0 ? runIn(folder) : Map.of();
        } finally {
            remove(folder);
        }
    }

    private static String program(String[] example) {
        List<String> lines = new ArrayList<>();
        lines.add("public final class Example {");
        lines.add("public static java.util.Map<String, Object> answers() {");
        lines.add("java.util.Map<String, Object> kept = new java.util.HashMap<>();");
        for (String line : example) {
            lines.add(line);
            Matcher m = KEEPS.matcher(line);
            if (m.matches()) {
                lines.add("kept.put(\"" + m.group(2) + "\", " + m.group(2) + ");");
            }
        }
        lines.add("return kept; } }");
        return String.join("\n", lines);
    }

    private static Map<?, ?> runIn(Path folder) throws Exception {
        try (URLClassLoader loader = new URLClassLoader(new URL[] {folder.toUri().toURL()})) {
            return (Map<?, ?>) loader.loadClass("Example").getMethod("answers").invoke(null);
        }
    }

    private static void remove(Path folder) throws IOException {
        for (String name : new String[] {"Example.java", "Example.class"}) {
            Files.deleteIfExists(folder.resolve(name));
        }
        Files.delete(folder);
    }

    /** README.md's table has a row for each call, with the parameters that the document has. */
    private static void callsAreTold(String readme) {
        for (String call : Document.calls()) {
            CHECK.due("README.md tells of " + call, readme.contains("\n| `" + call + "` |"), true);
        }
    }

    private static void testsAreTold(String readme) throws IOException {
        CHECK.due("README.md tells how to run the tests", readme.contains("    .ci/run\n"), true);
        Path folder = Path.of(System.getProperty("tests", "src/test/java"));
        try (java.util.stream.Stream<Path> files = Files.list(folder)) {
            for (Path file : (Iterable<Path>) files::iterator) {
                String name = file.getFileName().toString().replace(".java", "");
                CHECK.due("README.md tells of " + name, !name.endsWith("Test") || readme.contains("`" + name + "`"), true);
            }
        }
    }
}
