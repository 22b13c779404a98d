import java.io.IOException;
import java.lang.reflect.InvocationTargetException;
import java.lang.reflect.Method;
import java.net.URL;
import java.net.URLClassLoader;
import java.nio.file.Files;
import java.nio.file.Path;
import java.util.List;
import java.util.regex.Matcher;
import java.util.regex.Pattern;
import java.util.stream.Stream;
import javax.tools.ToolProvider;

/**
 * README.md: its examples, put one behind another, are a program that compiles, and each call
 * answers what stands behind it; each call of the face is shown; each test is named.
 */
final class ReadmeTest {
    private static final Path README = Path.of("README.md");
    private static final Path TESTS = Path.of("src/test/java");
    private static final Pattern BLOCK = Pattern.compile("(?s)\n```java\n(.*?)\n```\n");
    /** A call with its answer: x.ropes(11);  // 4: words. */
    private static final Pattern SHOWN = Pattern.compile("^(\\w.*\\));\\s+// ([^:]+)(: .*)?$");
    private static final Pattern CONSTANT = Pattern.compile("\\b(NONE|UNKNOWN|OUTSIDE|NOT|FULL)\\b");

    private ReadmeTest() {
    }

    public static void main(String[] args) throws IOException, ReflectiveOperationException {
        String readme = Files.readString(README);
        examples(readme);
        everyCallShown(readme);
        everyTestNamed(readme);
        Check.finish();
    }

    private static void examples(String readme) throws IOException, ReflectiveOperationException {
        Path at = Files.createTempDirectory("readme");
        try {
            Path source = at.resolve("Shown.java");
            Files.writeString(source, programOf(readme));
            int ended = ToolProvider.getSystemJavaCompiler().run(null, null, null,
                "-cp", System.getProperty("java.class.path"), "-d", at.toString(), source.toString());
            Check.due("compiling the examples", ended, 0);
            if (ended == 0) {
                run(at);
            }
        } finally {
            remove(at);
        }
    }

    private static String programOf(String readme) {
        StringBuilder body = new StringBuilder();
        int shown = 0;
        Matcher block = BLOCK.matcher(readme);
        while (block.find()) {
            for (String line : block.group(1).split("\n")) {
                Matcher call = SHOWN.matcher(line);
                // a line with a note that is no call with an answer would go unlooked at
                Check.holds("the example tells an answer: " + line, call.matches() || !line.contains("//"));
                shown += call.matches() ? 1 : 0;
                body.append(call.matches() ? dueLine(call) : line).append('\n');
            }
        }
        Check.holds("there are examples: " + shown, shown > 50);
        return "public class Shown {\n"
            + "public static java.util.List<String> rows = new java.util.ArrayList<>();\n"
            + "static void due(String call, long got, long want) { rows.add(call); rows.add(got + \" \" + want); }\n"
            + "public static void main(String[] args) {\n" + body + "}\n}\n";
    }

    private static String dueLine(Matcher call) {
        String answer = CONSTANT.matcher(call.group(2)).replaceAll("SummitTime.$1");
        String told = call.group(1).replace("\\", "\\\\").replace("\"", "\\\"");
        return "due(\"" + told + "\", " + call.group(1) + ", " + answer + ");";
    }

    private static void run(Path at) throws IOException, ReflectiveOperationException {
        try (URLClassLoader loader = new URLClassLoader(new URL[] {at.toUri().toURL()})) {
            Class<?> shown = loader.loadClass("Shown");
            shown.getMethod("main", String[].class).invoke(null, (Object) new String[0]);
            List<?> rows = (List<?>) shown.getField("rows").get(null);
            for (int i = 0; i + 1 < rows.size(); i += 2) {
                String[] numbers = rows.get(i + 1).toString().split(" ");
                Check.due("README: " + rows.get(i), Long.parseLong(numbers[0]), Long.parseLong(numbers[1]));
            }
        } catch (InvocationTargetException e) {
            Check.holds("the examples run to their end, " + e.getCause(), false);
        }
    }

    private static void remove(Path directory) throws IOException {
        try (Stream<Path> files = Files.list(directory)) {
            for (Path file : files.toList()) {
                Files.delete(file);
            }
        }
        Files.delete(directory);
    }

    private static void everyCallShown(String readme) {
        StringBuilder shown = new StringBuilder();
        Matcher block = BLOCK.matcher(readme);
        while (block.find()) {
            shown.append(block.group(1));
        }
        for (Method m : SummitTime.class.getDeclaredMethods()) {
            if (java.lang.reflect.Modifier.isPublic(m.getModifiers())) {
                Check.holds(m.getName() + " is shown", shown.indexOf("x." + m.getName() + "(") >= 0);
                Check.holds(m.getName() + " is in a list", readme.contains("\n| `" + m.getName() + "("));
            }
        }
    }

    private static void everyTestNamed(String readme) throws IOException {
        try (Stream<Path> files = Files.list(TESTS)) {
            for (Path file : files.toList()) {
                String name = file.getFileName().toString().replace(".java", "");
                Check.holds(name + " is named", readme.contains("`" + name + "`"));
            }
        }
    }
}
