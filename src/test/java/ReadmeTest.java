import java.io.IOException;
import java.io.UncheckedIOException;
import java.lang.reflect.Method;
import java.lang.reflect.Modifier;
import java.net.URL;
import java.net.URLClassLoader;
import java.nio.charset.StandardCharsets;
import java.nio.file.Files;
import java.nio.file.Path;
import java.util.ArrayList;
import java.util.Comparator;
import java.util.List;
import java.util.Set;
import java.util.TreeSet;
import java.util.concurrent.Callable;
import java.util.regex.Matcher;
import java.util.regex.Pattern;
import java.util.stream.Stream;
import javax.tools.JavaCompiler;
import javax.tools.ToolProvider;

/**
 * The calls that README.md shows answer as README.md says. Its pieces of code are compiled as they stand, each as a
 * method of its own, so that they are Java too.
 */
public final class ReadmeTest {
    private static final Path README = Path.of("README.md");
    private static final String CLASS = "ReadmeCalls";
    private static final String NEW_OBJECT = "PreimageAnalyzer x = new PreimageAnalyzer();";
    /** A call, what it answers, and behind a colon a remark. */
    private static final Pattern CALL = Pattern.compile("(x\\.(\\w+)\\(.*\\)); +// ([^:]+)(: .*)?");

    private static final String[] EXCEPTIONS = {"IndexOutOfBoundsException", "IllegalArgumentException",
        "IllegalStateException", "NoSuchElementException", "ArithmeticException"};

    /** The methods and the exceptions that the calls show. */
    private static final Set<String> SHOWN = new TreeSet<>();

    private ReadmeTest() {
    }

    public static void main(String[] args) throws IOException, ReflectiveOperationException {
        String text = Files.readString(README, StandardCharsets.UTF_8);
        List<List<String>> pieces = piecesOf(text);
        Check.due("pieces of code in README.md", true, !pieces.isEmpty());
        run(sourceOf(pieces));
        allIsShown(text);
        Check.end();
    }

    /** The lines of each piece of code between ```java and ```. */
    private static List<List<String>> piecesOf(String text) {
        List<List<String>> pieces = new ArrayList<>();
        boolean inPiece = false;
        for (String line : text.lines().toList()) {
            if (line.equals("```java")) {
                pieces.add(new ArrayList<>());
                inPiece = true;
            } else if (line.startsWith("```")) {
                inPiece = false;
            } else if (inPiece) {
                pieces.get(pieces.size() - 1).add(line);
            }
        }
        return pieces;
    }

    private static String sourceOf(List<List<String>> pieces) {
        StringBuilder methods = new StringBuilder();
        StringBuilder calls = new StringBuilder();
        for (int i = 0; i < pieces.size(); i++) {
            methods.append("    private static void piece").append(i).append("() throws Exception {\n");
            for (String line : pieces.get(i)) {
                methods.append("        ").append(statementOf(line)).append('\n');
            }
            methods.append("    }\n");
            calls.append("        piece").append(i).append("();\n");
        }
        return "public final class " + CLASS + " {\n" + methods
                + "    public static void run() throws Exception {\n" + calls + "    }\n}\n";
    }

    /** A line that is neither a new object nor a call with its answer would not be tested, so it is wrong. */
    private static String statementOf(String line) {
        if (line.equals(NEW_OBJECT)) {
            return line;
        }
        Matcher matcher = CALL.matcher(line);
        Check.due("a call with its answer in \"" + line + "\"", true, matcher.matches());
        if (!matcher.matches()) {
            return "";
        }
        String answer = matcher.group(3).strip();
        SHOWN.add(matcher.group(2));
        SHOWN.add(answer.replace("throws ", ""));
        return "ReadmeTest.shows(" + quoted(line) + ", " + quoted(answer) + ", () -> " + matcher.group(1) + ");";
    }

    private static String quoted(String text) {
        return '"' + text.replace("\\", "\\\\").replace("\"", "\\\"") + '"';
    }

    /** The compiled pieces call this; they are loaded apart, so it is public. */
    public static void shows(String line, String want, Callable<Object> call) throws Exception {
        Check.due("README.md: " + line, want, answerOf(call));
    }

    private static String answerOf(Callable<Object> call) throws Exception {
        try {
            return String.valueOf(call.call());
        } catch (RuntimeException e) {
            return "throws " + e.getClass().getSimpleName();
        }
    }

    private static void run(String source) throws IOException, ReflectiveOperationException {
        Path directory = Files.createTempDirectory("readme");
        try {
            Path file = directory.resolve(CLASS + ".java");
            Files.writeString(file, source, StandardCharsets.UTF_8);
            int exit = compile(file, directory);
            Check.due("the exit code of javac for the code in README.md", 0, exit);
            if (exit == 0) {
                runCompiled(directory);
            }
        } finally {
            delete(directory);
        }
    }

    private static int compile(Path file, Path directory) {
        JavaCompiler compiler = ToolProvider.getSystemJavaCompiler();
        if (compiler == null) {
            throw new IllegalStateException("this java comes without javac");
        }
        return compiler.run(null, null, null, "-proc:none", "-cp", System.getProperty("java.class.path"), "-d",
                directory.toString(), file.toString());
    }

    private static void runCompiled(Path directory) throws IOException, ReflectiveOperationException {
        URL[] urls = {directory.toUri().toURL()};
        try (URLClassLoader loader = new URLClassLoader(urls, ReadmeTest.class.getClassLoader())) {
            loader.loadClass(CLASS).getMethod("run").invoke(null);
        }
    }

    private static void delete(Path directory) throws IOException {
        try (Stream<Path> paths = Files.walk(directory)) {
            paths.sorted(Comparator.reverseOrder()).forEach(ReadmeTest::deleteOne);
        }
    }

    private static void deleteOne(Path path) {
        try {
            Files.delete(path);
        } catch (IOException e) {
            throw new UncheckedIOException(e);
        }
    }

    private static void allIsShown(String text) {
        for (Method method : PreimageAnalyzer.class.getDeclaredMethods()) {
            if (Modifier.isPublic(method.getModifiers())) {
                Check.due("README.md shows " + method.getName(), true, SHOWN.contains(method.getName()));
            }
        }
        for (String exception : EXCEPTIONS) {
            Check.due("README.md shows a call that throws " + exception, true, SHOWN.contains(exception));
        }
        Check.due("README.md says how to run the tests", true, text.contains("\n    .ci/run\n"));
    }
}
