import java.lang.reflect.Constructor;
import java.lang.reflect.Field;
import java.lang.reflect.Method;
import java.lang.reflect.Modifier;
import java.util.Arrays;
import java.util.Set;
import java.util.TreeSet;

/** The public face is the document's, and nothing else of the class can be seen. */
public final class FaceTest {
    private static final String[] FACE = {
        "public static final int PixelFormula.NONE",
        "public PixelFormula()",
        "public int PixelFormula.type(int) throws java.lang.IllegalArgumentException,java.lang.IllegalStateException",
        "public void PixelFormula.erase()",
        "public boolean PixelFormula.compile()",
        "public int PixelFormula.size()",
        "public int PixelFormula.instruction(int,int) throws java.lang.IndexOutOfBoundsException",
        "public int PixelFormula.result(int) throws java.lang.IllegalStateException,java.lang.IndexOutOfBoundsException",
        "public int PixelFormula.typeOf(int) throws java.lang.IndexOutOfBoundsException",
        "public int PixelFormula.value(int,int,int,int,int) throws java.lang.IndexOutOfBoundsException,java.lang.IllegalArgumentException",
        "public void PixelFormula.paint(int,int,int) throws java.lang.IndexOutOfBoundsException,java.lang.IllegalArgumentException",
        "public void PixelFormula.run(int) throws java.lang.IllegalStateException",
        "public int PixelFormula.pixel(int,int) throws java.lang.IndexOutOfBoundsException",
    };

    public static void main(String[] args) {
        Class<?> type = PixelFormula.class;
        Check.same("modifiers", Modifier.toString(type.getModifiers()), "public final");
        Set<String> seen = new TreeSet<>();
        for (Field field : type.getDeclaredFields()) {
            addVisible(seen, field.getModifiers(), field.toGenericString());
        }
        for (Constructor<?> constructor : type.getDeclaredConstructors()) {
            addVisible(seen, constructor.getModifiers(), constructor.toGenericString());
        }
        for (Method method : type.getDeclaredMethods()) {
            addVisible(seen, method.getModifiers(), method.toGenericString());
        }
        Check.same("face", seen.toString(), new TreeSet<>(Arrays.asList(FACE)).toString());
        Check.same("NONE", PixelFormula.NONE, -1);
        noPrivateNameIsPublic(type);
        for (Class<?> inside : type.getDeclaredClasses()) {
            Check.yes(inside.getName() + " is static", Modifier.isStatic(inside.getModifiers()));
            Check.no(inside.getName() + " is public", Modifier.isPublic(inside.getModifiers()));
        }
        Check.end();
    }

    private static void addVisible(Set<String> seen, int modifiers, String member) {
        if (!Modifier.isPrivate(modifiers)) {
            seen.add(member);
        }
    }

    private static void noPrivateNameIsPublic(Class<?> type) {
        Set<String> open = new TreeSet<>();
        for (Method method : type.getMethods()) {
            open.add(method.getName());
        }
        for (Method method : type.getDeclaredMethods()) {
            boolean hidden = Modifier.isPrivate(method.getModifiers());
            Check.no("private " + method.getName() + " is a public name", hidden && open.contains(method.getName()));
        }
    }
}
