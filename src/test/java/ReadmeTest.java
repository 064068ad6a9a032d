import java.io.IOException;
import java.lang.reflect.Method;
import java.lang.reflect.Modifier;
import java.net.URL;
import java.net.URLClassLoader;
import java.nio.file.Files;
import java.nio.file.Path;
import java.util.ArrayList;
import java.util.List;
import java.util.regex.Matcher;
import java.util.regex.Pattern;
import java.util.stream.Stream;
import javax.tools.ToolProvider;

/** What README.md shows is so: its Java is compiled, its calls are made, and their answers compared with its comments. */
public final class ReadmeTest {
    // Behind a call stands its answer, as Java says it, up to the colon.
    private static final Pattern CALL =
            Pattern.compile("(?:(int|boolean) (\\w+) = )?(x\\.(\\w+)\\(.*\\)); +// ([^:]+): .+");
    private static final String NEW_OBJECT = "LinkPredictor x = new LinkPredictor();";

    private final Checks checks = new Checks("ReadmeTest");
    private final List<String> lines;
    private final List<String> shown = new ArrayList<>();

    private ReadmeTest(List<String> lines) {
        this.lines = lines;
    }

    public static void main(String[] args) throws IOException, ReflectiveOperationException {
        ReadmeTest test = new ReadmeTest(Files.readAllLines(Path.of("README.md")));
        test.examplesAreSo();
        test.everyCallIsShown();
        test.everyTestIsNamed();
        test.checks.end();
    }

    private void examplesAreSo() throws IOException, ReflectiveOperationException {
        Path place = Files.createTempDirectory("readme");
        try {
            Path file = place.resolve("ReadmeExamples.java");
            Files.writeString(file, program());
            int fault = ToolProvider.getSystemJavaCompiler().run(null, null, null,
                    "-cp", System.getProperty("java.class.path"), "-d", place.toString(), file.toString());
            checks.due("compiling the examples", fault, 0);
            if (fault == 0) {
                compareAnswers(place);
            }
        } finally {
            clear(place);
        }
    }

    private void compareAnswers(Path place) throws IOException, ReflectiveOperationException {
        try (URLClassLoader loader = new URLClassLoader(new URL[] {place.toUri().toURL()})) {
            Method answers = loader.loadClass("ReadmeExamples").getMethod("answers");
            Object[][] rows = (Object[][]) answers.invoke(null);
            checks.due("calls made", rows.length, shown.size());
            for (Object[] row : rows) {
                checks.yes(row[0] + " answered " + row[1] + ", README.md says " + row[2] + ":", row[1].equals(row[2]));
            }
        }
    }

    /** A class that makes the calls of all examples and tells a row for each: the call, what came, what is due. */
    private String program() {
        StringBuilder text = new StringBuilder("public final class ReadmeExamples {\n"
                + "private static final java.util.List<Object[]> rows = new java.util.ArrayList<>();\n"
                + "private static void row(String call, Object got, Object want) {\n"
                + "rows.add(new Object[] {call, got, want}); }\n"
                + "public static Object[][] answers() {\n");
        boolean inside = false;
        for (String line : lines) {
            if (line.startsWith("```")) {
                text.append(line.equals("```java") ? "{\n" : "}\n");
                inside = !inside;
            } else if (inside) {
                text.append(rowOf(line)).append("\n");
            }
        }
        checks.no("an example has no end", inside);
        return text.append("return rows.toArray(new Object[0][]); } }\n").toString();
    }

    private String rowOf(String line) {
        if (line.equals(NEW_OBJECT)) {
            return line;
        }
        Matcher call = CALL.matcher(line);
        if (!call.matches()) {
            checks.yes("no call with its answer: " + line, false);
            return "";
        }
        shown.add(call.group(4));
        String quoted = "\"" + call.group(3) + "\"";
        if (call.group(2) == null) {
            return "row(" + quoted + ", " + call.group(3) + ", " + call.group(5) + ");";
        }
        return call.group(1) + " " + call.group(2) + " = " + call.group(3) + "; row(" + quoted + ", " + call.group(2)
                + ", " + call.group(5) + ");";
    }

    private void everyCallIsShown() {
        String page = String.join("\n", lines);
        for (Method method : LinkPredictor.class.getDeclaredMethods()) {
            if (Modifier.isPublic(method.getModifiers())) {
                checks.yes("an example calls " + method.getName(), shown.contains(method.getName()));
                checks.yes("the table has " + method.getName(), page.contains("| `" + method.getName() + "("));
            }
        }
    }

    private void everyTestIsNamed() throws IOException {
        String page = String.join("\n", lines);
        try (Stream<Path> files = Files.list(Path.of("src", "test", "java"))) {
            for (Path file : files.toList()) {
                String name = file.getFileName().toString().replace(".java", "");
                checks.yes(name, !name.endsWith("Test") || page.contains("\n| " + name + " |"));
            }
        }
    }

    private static void clear(Path place) throws IOException {
        try (Stream<Path> files = Files.list(place)) {
            for (Path file : files.toList()) {
                Files.delete(file);
            }
        }
        Files.delete(place);
    }
}
