import java.io.ByteArrayOutputStream;
import java.io.File;
import java.io.IOException;
import java.io.PrintStream;
import java.lang.reflect.Method;
import java.lang.reflect.Modifier;
import java.net.URL;
import java.net.URLClassLoader;
import java.nio.file.Files;
import java.nio.file.Path;
import java.util.List;
import java.util.Set;
import java.util.TreeSet;
import java.util.regex.Matcher;
import java.util.regex.Pattern;
import java.util.stream.Stream;
import javax.tools.ToolProvider;

/** README.md: its example prints what it says, and its calls, exceptions and tests are those that there are. */
public final class ReadmeTest {
    public static void main(String[] args) throws IOException, ReflectiveOperationException {
        String readme = Files.readString(Path.of("README.md"));
        example(readme);
        calls(readme);
        tests(readme);
        Expect.end("ReadmeTest");
    }

    private static String block(String readme, String kind) {
        String start = "\n```" + kind + "\n";
        int from = readme.indexOf(start) + start.length();
        return readme.substring(from, readme.indexOf("```", from));
    }

    private static void example(String readme) throws IOException, ReflectiveOperationException {
        Path directory = Files.createTempDirectory("readme");
        Path source = directory.resolve("Example.java");
        Files.writeString(source, block(readme, "java"));
        int failed = ToolProvider.getSystemJavaCompiler().run(null, null, null, "-Xlint:all", "-Werror",
            "-cp", System.getProperty("java.class.path"), "-d", directory.toString(), source.toString());
        Expect.same("the example is compiled", failed, 0);
        if (failed == 0) {
            Expect.alike("the example", printed(directory), block(readme, "text"));
        }
        for (File file : directory.toFile().listFiles()) {
            Files.delete(file.toPath());
        }
        Files.delete(directory);
    }

    private static String printed(Path directory) throws IOException, ReflectiveOperationException {
        PrintStream console = System.out;
        ByteArrayOutputStream bytes = new ByteArrayOutputStream();
        try (URLClassLoader loader = new URLClassLoader(new URL[] {directory.toUri().toURL()});
                PrintStream out = new PrintStream(bytes)) {
            System.setOut(out);
            loader.loadClass("Example").getMethod("main", String[].class).invoke(null, (Object) new String[0]);
        } finally {
            System.setOut(console);
        }
        return bytes.toString().replace(System.lineSeparator(), "\n");
    }

    /** Each line of the table of calls, in the form: name, number of arguments, letters of the exceptions. */
    private static void calls(String readme) {
        Set<String> told = new TreeSet<>();
        Matcher m = Pattern.compile("(?m)^\\| `(\\w+)\\(([^)]*)\\)` \\| .* \\| ([IASN ]*)\\|$").matcher(readme);
        while (m.find()) {
            int arguments = m.group(2).isEmpty() ? 0 : m.group(2).split(", ").length;
            told.add(m.group(1) + " " + arguments + " " + new TreeSet<>(List.of(m.group(3).trim().split(" "))));
        }
        Set<String> due = new TreeSet<>();
        for (Method method : PressureNet.class.getDeclaredMethods()) {
            if (Modifier.isPublic(method.getModifiers())) {
                due.add(method.getName() + " " + method.getParameterCount() + " " + letters(method));
            }
        }
        Expect.alike("calls and what they throw", told.toString(), due.toString());
    }

    private static Set<String> letters(Method method) {
        Set<String> letters = new TreeSet<>();
        for (Class<?> exception : method.getExceptionTypes()) {
            letters.add(exception == Expect.INDEX ? "I" : exception == Expect.ARGUMENT ? "A"
                : exception == Expect.STATE ? "S" : exception == Expect.ELEMENT ? "N" : exception.getName());
        }
        return letters.isEmpty() ? Set.of("") : letters;
    }

    private static void tests(String readme) throws IOException {
        Set<String> told = new TreeSet<>();
        Matcher m = Pattern.compile("(?m)^\\| `(\\w+Test)` \\|").matcher(readme);
        while (m.find()) {
            told.add(m.group(1));
        }
        Set<String> due = new TreeSet<>();
        try (Stream<Path> files = Files.list(Path.of("src/test/java"))) {
            files.map(file -> file.getFileName().toString()).filter(name -> name.endsWith("Test.java"))
                .forEach(name -> due.add(name.substring(0, name.length() - ".java".length())));
        }
        Expect.alike("the tests", told.toString(), due.toString());
    }
}
