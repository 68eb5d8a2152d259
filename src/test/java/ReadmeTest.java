import java.io.ByteArrayOutputStream;
import java.io.IOException;
import java.io.PrintStream;
import java.lang.reflect.Method;
import java.lang.reflect.Modifier;
import java.net.URL;
import java.net.URLClassLoader;
import java.nio.file.Files;
import java.nio.file.Path;
import java.util.Arrays;
import java.util.regex.Matcher;
import java.util.regex.Pattern;
import javax.tools.JavaCompiler;
import javax.tools.ToolProvider;

/** README.md, whose path is the second argument: its example holds, and it names every call of the face. */
public final class ReadmeTest {
    private static final int MOST_CALLS = 512;

    // Goes into the example's class, where each call on x goes through it.
    private static final String COUNTER = "    public static int calls;\n"
        + "    private static ShortenPrograms call(ShortenPrograms x) {\n        calls++;\n        return x;\n    }\n}\n";

    public static void main(String[] args) throws Exception {
        Checks.due("the paths of the document and of README.md are given", args.length > 1);
        if (args.length > 1) {
            String readme = Files.readString(Path.of(args[1]));
            Sentences sentences = new Sentences(args);
            sentences.section("What it is");
            sentences.test("An object is used for at most 512 calls after it has been made; what later calls answer is"
                + " free.", () -> example(readme));
            face(readme);
            tests(readme);
        }
        Checks.end("ReadmeTest");
    }

    private static void example(String readme) {
        String code = block(readme, "java");
        Checks.due("an example is there", !code.isEmpty());
        Path directory = null;
        try {
            directory = Files.createTempDirectory("example");
            runExample(readme, code, directory);
        } catch (IOException | ReflectiveOperationException e) {
            Checks.due("the example runs: " + e, false);
        } finally {
            delete(directory);
        }
    }

    private static void runExample(String readme, String code, Path directory)
            throws IOException, ReflectiveOperationException {
        String counted = code.replaceAll("\\bx\\.", "call(x).").replaceFirst("\\}\\s*$", Matcher.quoteReplacement(COUNTER));
        Path source = directory.resolve("Example.java");
        Files.writeString(source, counted);
        JavaCompiler compiler = ToolProvider.getSystemJavaCompiler();
        int compiled = compiler.run(null, null, null, "-cp", System.getProperty("java.class.path"), "-d",
            directory.toString(), source.toString());
        Checks.due("the example is compiled", compiled, 0);
        if (compiled != 0) {
            return;
        }
        try (URLClassLoader loader = new URLClassLoader(new URL[] {directory.toUri().toURL()})) {
            Class<?> example = loader.loadClass("Example");
            Checks.due("what the example prints", printedBy(example), block(readme, "text"));
            int calls = example.getField("calls").getInt(null);
            Checks.due("the example's calls, at most 512: " + calls, calls > 0 && calls <= MOST_CALLS);
            Checks.due("README.md tells how many", readme.replaceAll("\\s+", " ")
                .contains("The example makes " + calls + " calls."));
            Checks.due("README.md tells the bound", readme.contains("first " + MOST_CALLS + " calls"));
        }
    }

    private static String printedBy(Class<?> example) throws ReflectiveOperationException {
        PrintStream before = System.out;
        ByteArrayOutputStream printed = new ByteArrayOutputStream();
        System.setOut(new PrintStream(printed, true));
        try {
            example.getMethod("main", String[].class).invoke(null, (Object) new String[0]);
        } finally {
            System.setOut(before);
        }
        return printed.toString().replace(System.lineSeparator(), "\n");
    }

    private static void delete(Path directory) {
        if (directory == null) {
            return;
        }
        java.io.File[] files = directory.toFile().listFiles();
        if (files != null) {
            Arrays.stream(files).forEach(java.io.File::delete);
        }
        directory.toFile().delete();
    }

    /** The first block of this kind, "" where none is. */
    private static String block(String readme, String kind) {
        Matcher found = Pattern.compile("(?ms)^```" + kind + "\\n(.*?)^```$").matcher(readme);
        return found.find() ? found.group(1) : "";
    }

    private static void face(String readme) {
        for (Method method : ShortenPrograms.class.getDeclaredMethods()) {
            if (!Modifier.isPublic(method.getModifiers())) {
                continue;
            }
            String rows = rowsOf(readme, method.getName());
            Checks.due("README.md names " + method.getName(), !rows.isEmpty());
            for (Class<?> thrown : method.getExceptionTypes()) {
                Checks.due("README.md names the " + thrown.getSimpleName() + " of " + method.getName(),
                    rows.contains(thrown.getSimpleName()));
            }
        }
    }

    private static String rowsOf(String readme, String call) {
        StringBuilder rows = new StringBuilder();
        for (String line : readme.split("\n")) {
            if (line.startsWith("| `" + call + "(")) {
                rows.append(line);
            }
        }
        return rows.toString();
    }

    private static void tests(String readme) {
        Checks.due("README.md tells how the tests are run", readme.contains("`.ci/run`"));
        Checks.due("README.md tells how one test is run",
            block(readme, "sh").matches("(?s)javac .*\\njava -cp out \\w+Test .*"));
    }
}
