import java.io.IOException;
import java.nio.file.Files;
import java.nio.file.Path;
import java.util.List;
import java.util.regex.Pattern;

/** Those rules of LANGUAGE.md that can be seen from single lines of the source. */
public final class LanguageTest {
    private static final Path SOURCE = Path.of("src/main/java/PixelFormula.java");
    private static final String[] FORBIDDEN = {
        "^\\s*(import|package)\\b", "->", "::", "\\bstatic\\s*\\{", "\\b(synchronized|assert|finally|try|catch)\\b",
        "\\b(System\\.(?!arraycopy)|Thread|Random|java\\.)", "\\bInteger\\.[A-Z]", "\\bLong\\.[A-Z]", "Exact\\(",
        "\\b(double|float|Object|var)\\b", "@", "\\.(equals|hashCode|toString|getMessage)\\(",
    };

    public static void main(String[] args) throws IOException {
        List<String> lines = Files.readAllLines(SOURCE);
        boolean inComment = false;
        for (int i = 0; i < lines.size(); i++) {
            String line = lines.get(i);
            inComment = inComment || line.trim().startsWith("/*");
            if (!inComment) {
                checkLine(i + 1, line.replaceAll("//.*", ""));
            }
            inComment = inComment && !line.contains("*/");
        }
        Check.end();
    }

    private static void checkLine(int number, String line) {
        for (String pattern : FORBIDDEN) {
            Check.no("line " + number + " has " + pattern, Pattern.compile(pattern).matcher(line).find());
        }
    }
}
