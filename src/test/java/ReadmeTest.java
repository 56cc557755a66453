import java.io.ByteArrayOutputStream;
import java.io.IOException;
import java.io.PrintStream;
import java.lang.reflect.Method;
import java.lang.reflect.Modifier;
import java.net.URL;
import java.net.URLClassLoader;
import java.nio.charset.StandardCharsets;
import java.nio.file.Files;
import java.nio.file.Path;
import java.util.ArrayList;
import java.util.Arrays;
import java.util.List;
import java.util.TreeSet;
import java.util.regex.Pattern;
import javax.tools.ToolProvider;

/** README.md says how to use the class: its example prints what it says, and it has a row for each call of the face. */
public final class ReadmeTest {
    private static final Path README = Path.of("README.md");
    private static final Pattern EXCEPTION = Pattern.compile("[A-Za-z]+Exception");

    static void theExamplePrintsWhatStandsBelowIt() throws IOException, ReflectiveOperationException {
        String text = Files.readString(README);
        String example = blockBehind(text, "```java\n");
        String printed = blockBehind(text.substring(text.indexOf(example)), "It prints:\n\n```text\n");
        equal("what the example prints", outputOf(example), printed);
    }

    static void eachCallOfTheFaceHasItsRow() throws IOException {
        TreeSet<String> face = new TreeSet<>();
        face.add("TrustedUpdates/0 []");
        for (Method method : TrustedUpdates.class.getDeclaredMethods()) {
            if (Modifier.isPublic(method.getModifiers())) {
                face.add(method.getName() + "/" + method.getParameterCount() + " " + exceptionsOf(method));
            }
        }
        TreeSet<String> told = new TreeSet<>();
        for (String row : Files.readAllLines(README)) {
            if (row.startsWith("| `")) {
                told.add(callOf(row) + " " + exceptionsIn(row));
            }
        }
        equal("the calls and exceptions of README.md", told.toString(), face.toString());
    }

    static void itSaysHowToRunTheTests() throws IOException {
        String section = Files.readString(README).split("## How to run the tests\n", 2)[1];
        equal("how to run the tests", blockBehind(section, "```sh\n"), ".ci/run\n");
    }

    private static String blockBehind(String text, String opening) {
        int from = text.indexOf(opening);
        if (from < 0) {
            throw new AssertionError("README.md has no " + opening);
        }
        from += opening.length();
        return text.substring(from, text.indexOf("```", from));
    }

    private static String outputOf(String program) throws IOException, ReflectiveOperationException {
        Path folder = Files.createTempDirectory("readme");
        Path source = folder.resolve("Example.java");
        PrintStream usual = System.out;
        ByteArrayOutputStream printed = new ByteArrayOutputStream();
        try {
            Files.writeString(source, program);
            equal("the compiler's answer", compile(source, folder), "0");
            System.setOut(new PrintStream(printed, true, StandardCharsets.UTF_8));
            try (URLClassLoader loader = new URLClassLoader(new URL[] {folder.toUri().toURL()})) {
                Object noArguments = new String[0];
                loader.loadClass("Example").getMethod("main", String[].class).invoke(null, noArguments);
            }
        } finally {
            System.setOut(usual);
            Files.deleteIfExists(folder.resolve("Example.class"));
            Files.deleteIfExists(source);
            Files.deleteIfExists(folder);
        }
        return printed.toString(StandardCharsets.UTF_8).replace(System.lineSeparator(), "\n");
    }

    private static String compile(Path source, Path folder) {
        return Integer.toString(ToolProvider.getSystemJavaCompiler().run(null, null, null, "-cp",
                System.getProperty("java.class.path"), "-d", folder.toString(), source.toString()));
    }

    private static List<String> exceptionsOf(Method method) {
        return Arrays.stream(method.getExceptionTypes()).map(Class::getSimpleName).toList();
    }

    /** The call in the row's first cell, as its name and how many arguments it has. */
    private static String callOf(String row) {
        String call = row.substring(3, row.indexOf('`', 3));
        String arguments = call.substring(call.indexOf('(') + 1, call.indexOf(')'));
        return call.substring(0, call.indexOf('(')) + "/" + (arguments.isEmpty() ? 0 : arguments.split(",").length);
    }

    private static List<String> exceptionsIn(String row) {
        List<String> exceptions = new ArrayList<>();
        EXCEPTION.matcher(row).results().forEach(found -> exceptions.add(found.group()));
        return exceptions;
    }

    private static void equal(String what, String got, String want) {
        if (!got.equals(want)) {
            throw new AssertionError(what + " was " + got + ", due is " + want);
        }
    }

    public static void main(String[] args) {
        Cases.run(ReadmeTest.class);
    }

    private ReadmeTest() {
    }
}
