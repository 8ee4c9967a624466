import java.io.IOException;
import java.lang.reflect.Constructor;
import java.lang.reflect.Field;
import java.lang.reflect.Method;
import java.lang.reflect.Modifier;
import java.nio.file.Files;
import java.nio.file.Path;
import java.util.Arrays;
import java.util.Set;
import java.util.TreeSet;
import java.util.regex.Matcher;
import java.util.regex.Pattern;

/** The public face, and those rules of ../shared/LANGUAGE.md that can be read off the source. */
public final class FaceTest {
    private static final Path SOURCE = Path.of("src/main/java/EnclosedDigits.java");
    private static final String[] METHODS = {
        "int whole(long)", "int ratio(long, long)", "int arctan(int)", "int artanh(int)",
        "int power(int, int)", "int root(int)", "int join(int, int, int)", "int drop(int)",
        "int values()", "int digits(int, int)", "int digit(int)", "int length()",
        "int enclose(int, int)", "int bound(int, int)", "int order(int, int)",
        "int quotients(int, int)", "long quotient(int)", "int many()", "int precision()"
    };
    private static final String[] BANNED = {
        "throw", "throws", "try", "catch", "synchronized", "assert", "protected", "package",
        "native", "volatile", "Object", "System\\.(?!arraycopy)\\w+", "Math\\.\\w+Exact",
        "Math\\.(sqrt|pow|log|exp)", "\\w+::\\w+", "->", "var", "BigInteger", "BigDecimal",
        "Random", "Thread", "import(?! java\\.util\\.Arrays;)"
    };

    private final Report report = new Report();

    public static void main(String[] args) throws IOException {
        FaceTest test = new FaceTest();
        test.face();
        test.constants();
        test.insides();
        test.source(Files.readString(SOURCE));
        test.report.end();
    }

    private static boolean isPrivate(int modifiers) {
        return Modifier.isPrivate(modifiers);
    }

    private void face() {
        Class<?> it = EnclosedDigits.class;
        report.due("modifiers", Modifier.toString(it.getModifiers()), "public final");
        Set<String> found = new TreeSet<>();
        for (Method m : it.getDeclaredMethods()) {
            if (!isPrivate(m.getModifiers())) {
                String types = Arrays.toString(m.getParameterTypes()).replaceAll("[\\[\\]]", "");
                found.add(m.getReturnType() + " " + m.getName() + "(" + types + ")");
                report.due(m.getName(), Modifier.toString(m.getModifiers()), "public");
            }
        }
        report.due("methods", found.toString(), new TreeSet<>(Arrays.asList(METHODS)).toString());
        for (Method m : it.getDeclaredMethods()) {
            boolean takesName = isPrivate(m.getModifiers())
                && Arrays.stream(METHODS).anyMatch(x -> x.contains(" " + m.getName() + "("));
            report.due("a private " + m.getName(), takesName ? 1 : 0, 0);
        }
        Constructor<?>[] constructors = it.getDeclaredConstructors();
        report.due("constructors", constructors.length, 1);
        report.due("the constructor", constructors[0].toString(), "public EnclosedDigits()");
    }

    private void constants() {
        report.due("NONE", EnclosedDigits.NONE, -1);
        report.due("FULL", EnclosedDigits.FULL, -2);
        report.due("OPEN", EnclosedDigits.OPEN, -3);
        Set<String> found = new TreeSet<>();
        for (Field f : EnclosedDigits.class.getDeclaredFields()) {
            if (!isPrivate(f.getModifiers())) {
                found.add(f.toString().replace("EnclosedDigits.", ""));
            }
        }
        report.due("constants", found.toString(), "[public static final int FULL, "
            + "public static final int NONE, public static final int OPEN]");
    }

    private void insides() {
        Class<?>[] inside = EnclosedDigits.class.getDeclaredClasses();
        report.due("at most twelve classes", inside.length < 12 ? 1 : 0, 1);
        for (Class<?> c : inside) {
            report.due(c + " is static", Modifier.isStatic(c.getModifiers()) ? 1 : 0, 1);
            int own = 0;
            for (Field f : c.getDeclaredFields()) {
                boolean isStatic = Modifier.isStatic(f.getModifiers());
                own += isStatic ? 0 : 1;
                boolean isFine = !isStatic || Modifier.isFinal(f.getModifiers());
                report.due(f + " is no static state", isFine ? 1 : 0, 1);
            }
            report.due("at most twenty fields in " + c, own <= 20 ? 1 : 0, 1);
            for (Method m : c.getDeclaredMethods()) {
                report.due("parameters of " + m, m.getParameterCount() <= 7 ? 1 : 0, 1);
            }
        }
    }

    private void source(String text) {
        String code = text.replaceAll("(?s)/\\*.*?\\*/", "").replaceAll("//[^\n]*", "");
        for (String word : BANNED) {
            String edge = Character.isLetter(word.charAt(0)) ? "\\b" : "";
            Matcher m = Pattern.compile(edge + word + (edge.isEmpty() ? "" : "(?!\\w)")).matcher(code);
            report.due("source: " + word, m.find() ? 1 : 0, 0);
        }
        int start = -1;
        String[] lines = text.split("\n");
        for (int i = 0; i < lines.length; i++) {
            if (lines[i].matches("(    |        )[a-zA-Z].*\\) \\{")) {
                start = i;
            } else if (start >= 0 && lines[i].matches("(    |        )}")) {
                report.due("length of " + lines[start].trim(), i - start < 60 ? 1 : 0, 1);
                start = -1;
            }
        }
    }
}
