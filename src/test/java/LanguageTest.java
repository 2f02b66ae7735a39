import java.io.IOException;
import java.lang.reflect.Field;
import java.lang.reflect.Method;
import java.lang.reflect.Modifier;
import java.nio.file.Files;
import java.nio.file.Path;
import java.util.ArrayList;
import java.util.List;
import java.util.Set;
import java.util.TreeSet;
import java.util.regex.Pattern;

/** Those rules of LANGUAGE.md that can be seen from single lines of the source or from the compiled class. */
public final class LanguageTest {
    private static final Path SOURCE = Path.of("src/main/java/PixelFormula.java");
    private static final String[] FORBIDDEN = {
        "^\\s*(import|package)\\b", "->", "::", "\\bstatic\\s*\\{", "\\b(synchronized|assert|finally|try|catch)\\b",
        "\\b(System\\.(?!arraycopy)|Thread|Random|java\\.)", "\\bInteger\\.[A-Z]", "\\bLong\\.[A-Z]", "Exact\\(",
        "\\b(double|float|Object|var)\\b", "@", "\\.(equals|hashCode|toString|getMessage)\\(",
        "while \\(true\\)", "for \\(;;", "\\bthrow (?!new Illegal(State|Argument)Exception\\(\\);|new IndexOutOfBoundsException\\(\\);)",
        "[^\\x20-\\x7E]",
    };
    private static final Set<String> CONSTANT_TYPES =
        Set.of("int", "long", "boolean", "char", "String", "int[]", "long[]", "char[]", "byte[]");
    // A method of the class, or one of a class inside it.
    private static final Pattern METHOD_START = Pattern.compile("^( {4}| {8})[a-zA-Z].*\\(.*\\{$");

    public static void main(String[] args) throws IOException {
        List<String> lines = Files.readAllLines(SOURCE);
        singleLines(lines);
        methodsAreShort(lines);
        List<Class<?>> classes = new ArrayList<>();
        classes.add(PixelFormula.class);
        classes.addAll(List.of(PixelFormula.class.getDeclaredClasses()));
        Check.yes("at most twelve classes", classes.size() <= 12);
        for (Class<?> type : classes) {
            fields(type);
            methods(type);
            Check.same("classes inside " + type.getName(), type.getDeclaredClasses().length,
                type == PixelFormula.class ? classes.size() - 1 : 0);
        }
        Check.end();
    }

    private static void singleLines(List<String> lines) {
        boolean inComment = false;
        for (int i = 0; i < lines.size(); i++) {
            String line = lines.get(i);
            inComment = inComment || line.trim().startsWith("/*");
            if (!inComment) {
                checkLine(i + 1, line.replaceAll("//.*", ""));
            }
            inComment = inComment && !line.contains("*/");
        }
    }

    private static void checkLine(int number, String line) {
        for (String pattern : FORBIDDEN) {
            Check.no("line " + number + " has " + pattern, Pattern.compile(pattern).matcher(line).find());
        }
    }

    /** Rule 11; a method ends with a bracket that stands under its beginning. */
    private static void methodsAreShort(List<String> lines) {
        int methods = 0;
        for (int start = 0; start < lines.size(); start++) {
            if (METHOD_START.matcher(lines.get(start)).find()) {
                methods++;
                String end = lines.get(start).replaceAll("\\S.*", "") + "}";
                int last = start;
                while (last < lines.size() && !lines.get(last).equals(end)) {
                    last++;
                }
                Check.yes("at most 60 lines: " + lines.get(start).trim(), last - start < 60);
            }
        }
        Check.yes("methods were found: " + methods, methods > 50);
    }

    /** Rules 5 and 11. */
    private static void fields(Class<?> type) {
        int own = 0;
        for (Field field : type.getDeclaredFields()) {
            if (Modifier.isStatic(field.getModifiers())) {
                String name = type.getName() + "." + field.getName();
                Check.yes(name + " is final", Modifier.isFinal(field.getModifiers()));
                Check.yes(name + " is a constant", CONSTANT_TYPES.contains(field.getType().getSimpleName()));
            } else {
                own++;
            }
        }
        Check.yes("at most 20 fields in " + type.getName(), own <= 20);
    }

    /** Rules 1 and 11: the private methods of the classes inside keep off the public names too. */
    private static void methods(Class<?> type) {
        Set<String> open = new TreeSet<>();
        for (Method method : PixelFormula.class.getMethods()) {
            open.add(method.getName());
        }
        for (Method method : type.getDeclaredMethods()) {
            String name = type.getName() + "." + method.getName();
            Check.yes("at most seven parameters: " + name, method.getParameterCount() <= 7);
            Check.no(name + " has a public name", !Modifier.isPublic(method.getModifiers()) && open.contains(method.getName()));
        }
    }
}
