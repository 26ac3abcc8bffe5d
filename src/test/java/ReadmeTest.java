import java.lang.reflect.Method;
import java.lang.reflect.Modifier;
import java.net.URL;
import java.net.URLClassLoader;
import java.nio.file.Files;
import java.nio.file.Path;
import java.util.regex.Matcher;
import java.util.regex.Pattern;
import javax.tools.ToolProvider;

/** The example of README.md answers what is written beside it, and README.md names every call. */
public final class ReadmeTest {
    /** A comment that begins with a number tells the answer of its line. */
    private static final Pattern ANSWERED = Pattern.compile("(k\\..*);\\s*// (-?\\d+)\\b.*");

    private static int answered = 0;

    public static void main(String[] args) throws Exception {
        String text = Files.readString(Path.of("README.md"));
        dueEveryCall(text);
        runExample(example(text));
        Check.due("answers are told in the example", answered > 0, true);
        Check.end();
    }

    private static void dueEveryCall(String text) {
        for (Method m : SplitKernel.class.getDeclaredMethods()) {
            if (Modifier.isPublic(m.getModifiers())) {
                Check.due("README.md names " + m.getName(), text.contains("`" + m.getName() + "("), true);
            }
        }
    }

    private static String example(String text) {
        int start = text.indexOf("```java\n") + 8;
        return text.substring(start, text.indexOf("```", start));
    }

    private static void runExample(String example) throws Exception {
        Path directory = Files.createTempDirectory("readme");
        Path source = directory.resolve("Example.java");
        Files.writeString(source, source(example));
        int failed = ToolProvider.getSystemJavaCompiler().run(null, null, null,
                "-cp", System.getProperty("java.class.path"), "-d", directory.toString(), source.toString());
        Check.due("the example is refused by javac", failed != 0, false);
        if (failed == 0) {
            try (URLClassLoader loader = new URLClassLoader(new URL[] {directory.toUri().toURL()})) {
                loader.loadClass("Example").getMethod("run").invoke(null);
            }
        }
        Files.deleteIfExists(directory.resolve("Example.class"));
        Files.delete(source);
        Files.delete(directory);
    }

    private static String source(String example) {
        StringBuilder body = new StringBuilder();
        for (String line : example.split("\n")) {
            Matcher matcher = ANSWERED.matcher(line);
            if (matcher.matches()) {
                String call = matcher.group(1);
                line = "ReadmeTest.due(\"" + call + "\", " + call + ", " + matcher.group(2) + ");";
            }
            body.append(line).append('\n');
        }
        return "public final class Example { public static void run() {\n" + body + "} }\n";
    }

    /** What the example calls where an answer is told. */
    public static void due(String call, int got, int want) {
        answered++;
        Check.due(call, got, want);
    }
}
