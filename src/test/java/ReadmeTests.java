import java.lang.reflect.Method;
import java.lang.reflect.Modifier;
import java.net.URL;
import java.net.URLClassLoader;
import java.nio.file.Files;
import java.nio.file.Path;
import java.util.ArrayList;
import java.util.List;
import java.util.TreeSet;
import java.util.regex.Matcher;
import java.util.regex.Pattern;
import javax.tools.ToolProvider;

/** README.md tells the truth: its example is compiled and run, and its table of calls is that of the class. */
final class ReadmeTests {
    private static final Pattern EXAMPLE = Pattern.compile("(?s)```java\n(.*?)```");
    /** A declaration or none, a call, and what it answers, up to the reason behind a colon. */
    private static final Pattern LINE = Pattern.compile("(int \\w+ = )?(desk\\..*); +// ([^:]*)(: .*)?");
    private static final Pattern NAMED = Pattern.compile("`(\\w+)`");

    private final Checks checks;
    private final List<String> due = new ArrayList<>();
    private final StringBuilder program = new StringBuilder();

    ReadmeTests(Checks checks) {
        this.checks = checks;
    }

    void run() throws Exception {
        String text = Files.readString(Path.of("README.md"));
        checks.test("the example of README.md", () -> example(text));
        checks.test("the table of README.md names each call", () -> checks.due(calls(), callsNamed(text)));
    }

    private void example(String text) throws Exception {
        Matcher found = EXAMPLE.matcher(text);
        checks.due(true, found.find());
        program.append("public class Example { public static void run(java.util.List<String> told) {\n");
        for (String line : found.group(1).split("\n")) {
            addLine(line);
        }
        program.append("} }\n");
        checks.due(true, due.size() > 10);
        List<String> told = new ArrayList<>();
        runProgram(told);
        checks.due(due, told);
    }

    private void addLine(String line) {
        Matcher parts = LINE.matcher(line);
        if (!parts.matches()) {
            program.append(line).append('\n');
            return;
        }
        due.add(parts.group(3));
        if (parts.group(1) != null) {
            String name = parts.group(1).split(" ")[1];
            program.append(parts.group(1)).append(parts.group(2)).append(";\n");
            program.append("told.add(\"\" + ").append(name).append(");\n");
        } else {
            program.append("try { told.add(\"\" + ").append(parts.group(2))
                .append("); } catch (RuntimeException e) { told.add(e.getClass().getSimpleName()); }\n");
        }
    }

    private void runProgram(List<String> told) throws Exception {
        Path folder = Files.createTempDirectory("readme");
        Path source = Files.writeString(folder.resolve("Example.java"), program);
        Path compiled = folder.resolve("Example.class");
        int problems = ToolProvider.getSystemJavaCompiler().run(null, null, null, "-cp",
            System.getProperty("java.class.path"), "-d", folder.toString(), source.toString());
        checks.due(0, problems);
        try (URLClassLoader loader = new URLClassLoader(new URL[] {folder.toUri().toURL()})) {
            loader.loadClass("Example").getMethod("run", List.class).invoke(null, told);
        } finally {
            Files.deleteIfExists(compiled);
            Files.delete(source);
            Files.delete(folder);
        }
    }

    private static TreeSet<String> calls() {
        TreeSet<String> names = new TreeSet<>();
        for (Method method : TicketWeaver.class.getDeclaredMethods()) {
            if (Modifier.isPublic(method.getModifiers())) {
                names.add(method.getName());
            }
        }
        return names;
    }

    private static TreeSet<String> callsNamed(String text) {
        TreeSet<String> names = new TreeSet<>();
        String table = text.replaceAll("(?s).*\\| about |\n\n.*", "");
        Matcher named = NAMED.matcher(table);
        while (named.find()) {
            names.add(named.group(1));
        }
        return names;
    }
}
