import java.io.ByteArrayOutputStream;
import java.io.IOException;
import java.io.PrintStream;
import java.lang.reflect.Method;
import java.lang.reflect.Modifier;
import java.net.URL;
import java.net.URLClassLoader;
import java.nio.charset.StandardCharsets;
import java.nio.file.DirectoryStream;
import java.nio.file.Files;
import java.nio.file.Path;
import java.util.Set;
import java.util.TreeSet;
import java.util.regex.Matcher;
import java.util.regex.Pattern;
import javax.tools.ToolProvider;

/** README.md says what is true: its program, its texts, the calls and the tests that it lists. */
public final class ReadmeTest {
    private static final Pattern CALL_ROW = Pattern.compile("^\\| `(\\w+)\\(([^)]*)\\)` \\|.*\\|([^|]*)\\|$", Pattern.MULTILINE);
    private static final Pattern TEXT_ROW = Pattern.compile("^\\| `([!-~]+)` \\| (yes|no) \\|", Pattern.MULTILINE);
    private static final Pattern TEST_ROW = Pattern.compile("^\\| (\\w+Test) \\|", Pattern.MULTILINE);
    private static final Pattern EXCEPTION = Pattern.compile("\\w+Exception");

    public static void main(String[] args) throws Exception {
        String readme = Files.readString(Path.of("README.md"));
        programPrintsWhatItSays(readme);
        callsAreThoseOfTheClass(readme);
        textsAreAcceptedOrNot(readme);
        testsAreAllListed(readme);
        Check.yes("how to run the tests", readme.contains("```sh\n.ci/run\n```"));
        Check.end();
    }

    /** The first block of that kind. */
    private static String block(String readme, String kind) {
        Matcher block = Pattern.compile("```" + kind + "\n(.*?)```", Pattern.DOTALL).matcher(readme);
        return block.find() ? block.group(1) : "";
    }

    private static void programPrintsWhatItSays(String readme) throws Exception {
        Path folder = Files.createTempDirectory("readme");
        Path source = folder.resolve("Example.java");
        Files.writeString(source, block(readme, "java"));
        int answer = ToolProvider.getSystemJavaCompiler().run(null, null, null, "-d", folder.toString(), source.toString());
        Check.same("javac Example.java", answer, 0);
        if (answer == 0) {
            Check.same("Example prints", printedBy(folder), block(readme, "text"));
        }
        removeFilesOf(folder);
        Files.delete(folder);
    }

    private static String printedBy(Path folder) throws Exception {
        ByteArrayOutputStream printed = new ByteArrayOutputStream();
        PrintStream before = System.out;
        URL[] place = {folder.toUri().toURL()};
        try (URLClassLoader loader = new URLClassLoader(place, ReadmeTest.class.getClassLoader())) {
            Method main = loader.loadClass("Example").getMethod("main", String[].class);
            System.setOut(new PrintStream(printed, true, StandardCharsets.UTF_8));
            main.invoke(null, (Object) new String[0]);
        } finally {
            System.setOut(before);
        }
        return printed.toString(StandardCharsets.UTF_8).replace(System.lineSeparator(), "\n");
    }

    private static void removeFilesOf(Path folder) throws IOException {
        try (DirectoryStream<Path> files = Files.newDirectoryStream(folder)) {
            for (Path file : files) {
                Files.delete(file);
            }
        }
    }

    private static void callsAreThoseOfTheClass(String readme) {
        Set<String> due = new TreeSet<>();
        for (Method method : PixelFormula.class.getDeclaredMethods()) {
            if (Modifier.isPublic(method.getModifiers())) {
                due.add(signature(method));
            }
        }
        Set<String> told = new TreeSet<>();
        Matcher row = CALL_ROW.matcher(readme);
        while (row.find()) {
            int parameters = row.group(2).isEmpty() ? 0 : row.group(2).split(",").length;
            StringBuilder call = new StringBuilder(row.group(1)).append(' ').append(parameters);
            Matcher exception = EXCEPTION.matcher(row.group(3));
            while (exception.find()) {
                call.append(' ').append(exception.group());
            }
            told.add(call.toString());
        }
        Check.same("calls", told.toString(), due.toString());
    }

    private static String signature(Method method) {
        StringBuilder call = new StringBuilder(method.getName()).append(' ').append(method.getParameterCount());
        for (Class<?> exception : method.getExceptionTypes()) {
            call.append(' ').append(exception.getSimpleName());
        }
        return call.toString();
    }

    private static void textsAreAcceptedOrNot(String readme) {
        Matcher row = TEXT_ROW.matcher(readme);
        int rows = 0;
        while (row.find()) {
            rows++;
            boolean accepted = Check.compile(new PixelFormula(), row.group(1));
            Check.same("compile() of " + row.group(1), accepted ? "yes" : "no", row.group(2));
        }
        Check.same("texts", rows, 10);
    }

    private static void testsAreAllListed(String readme) throws IOException {
        Set<String> due = new TreeSet<>();
        try (DirectoryStream<Path> files = Files.newDirectoryStream(Path.of("src/test/java"), "*.java")) {
            for (Path file : files) {
                due.add(file.getFileName().toString().replace(".java", ""));
            }
        }
        Set<String> told = new TreeSet<>();
        Matcher row = TEST_ROW.matcher(readme);
        while (row.find()) {
            told.add(row.group(1));
        }
        Check.same("tests", told.toString(), due.toString());
    }
}
