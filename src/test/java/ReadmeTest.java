import java.io.ByteArrayOutputStream;
import java.io.IOException;
import java.io.PrintStream;
import java.lang.reflect.Field;
import java.lang.reflect.Method;
import java.lang.reflect.Modifier;
import java.net.URL;
import java.net.URLClassLoader;
import java.nio.charset.StandardCharsets;
import java.nio.file.Files;
import java.nio.file.Path;
import java.util.List;
import java.util.stream.Stream;
import javax.tools.JavaCompiler;
import javax.tools.ToolProvider;

/** README.md is there, tells of every call, constant and test, and its example is true. */
public final class ReadmeTest {
    private static final Path README = Path.of("README.md");
    private static final Path TESTS = Path.of("src/test/java");
    private static final String FENCE = "```";

    private final Report report = new Report();

    public static void main(String[] args) throws Exception {
        ReadmeTest test = new ReadmeTest();
        String text = Files.isRegularFile(README) ? Files.readString(README) : "";
        test.report.due("README.md is there and not empty", text.isBlank() ? 0 : 1, 1);
        test.face(text);
        test.tests(text);
        test.example(text);
        test.report.end();
    }

    private void says(String text, String words) {
        report.due("README.md: " + words, text.contains(words) ? 1 : 0, 1);
    }

    private void face(String text) {
        for (Method m : EnclosedDigits.class.getDeclaredMethods()) {
            if (Modifier.isPublic(m.getModifiers())) {
                says(text, "`" + m.getName() + "(");
            }
        }
        for (Field f : EnclosedDigits.class.getDeclaredFields()) {
            if (Modifier.isPublic(f.getModifiers())) {
                says(text, "`" + f.getName() + "`");
            }
        }
    }

    private void tests(String text) throws IOException {
        says(text, "    .ci/run\n");
        try (Stream<Path> files = Files.list(TESTS)) {
            List<String> names = files.map(f -> f.getFileName().toString()).sorted().toList();
            for (String name : names) {
                says(text, "`" + name.replace(".java", "") + "`");
            }
        }
    }

    private void example(String text) throws Exception {
        String code = block(text, "java");
        report.due("there is an example", code.isBlank() ? 0 : 1, 1);
        report.due("what the example prints", printedBy(code), block(text, "text"));
    }

    /** The lines of the first block of that kind, or none. */
    private static String block(String text, String kind) {
        String opening = "\n" + FENCE + kind + "\n";
        int start = text.indexOf(opening);
        int from = start + opening.length();
        int end = start < 0 ? -1 : text.indexOf(FENCE, from);
        return end < 0 ? "" : text.substring(from, end);
    }

    private String printedBy(String code) throws Exception {
        Path directory = Files.createTempDirectory("example");
        Path source = directory.resolve("Example.java");
        Files.writeString(source, "public final class Example {\n"
            + "public static void main(String[] args) {\n" + code + "}\n}\n");
        JavaCompiler compiler = ToolProvider.getSystemJavaCompiler();
        int failed = compiler.run(null, null, null, "-cp", System.getProperty("java.class.path"),
            "-d", directory.toString(), source.toString());
        report.due("the example's compiling", failed, 0);
        String printed = failed == 0 ? run(directory) : "";
        delete(directory);
        return printed;
    }

    private static String run(Path directory) throws Exception {
        PrintStream usual = System.out;
        ByteArrayOutputStream caught = new ByteArrayOutputStream();
        URL[] places = {directory.toUri().toURL()};
        try (URLClassLoader loader = new URLClassLoader(places);
             PrintStream catching = new PrintStream(caught, true, StandardCharsets.UTF_8)) {
            System.setOut(catching);
            Method main = loader.loadClass("Example").getMethod("main", String[].class);
            main.invoke(null, (Object) new String[0]);
        } finally {
            System.setOut(usual);
        }
        return caught.toString(StandardCharsets.UTF_8).replace("\r\n", "\n");
    }

    private static void delete(Path directory) throws IOException {
        try (Stream<Path> files = Files.list(directory)) {
            for (Path file : files.toList()) {
                Files.delete(file);
            }
        }
        Files.delete(directory);
    }
}
