import java.lang.reflect.Constructor;
import java.lang.reflect.Field;
import java.lang.reflect.Method;
import java.lang.reflect.Modifier;
import java.util.Arrays;
import java.util.HashSet;
import java.util.Set;
import java.util.TreeSet;

/** The public face: what the document has, and nothing else that is not private. */
public final class FaceTest {
    private static final Set<String> METHODS = Set.of(
        "int feed[int, int, int, int, int]", "int fill[int, int]", "int peek[int]",
        "boolean poke[int, int]", "void clear[]", "int read[int, int]", "int write[int]",
        "int back[]", "int made[]", "int out[int]", "int told[int]", "int length[int, int]");

    private FaceTest() {
    }

    public static void main(String[] args) {
        Check.same("NONE", ArchiveDesk.NONE, -1);
        Check.yes("a public final class", ArchiveDesk.class.getModifiers() == (Modifier.PUBLIC | Modifier.FINAL));
        methods();
        fields();
        constructors();
        for (Class<?> inside : ArchiveDesk.class.getDeclaredClasses()) {
            Check.yes(inside.getName() + " is static", Modifier.isStatic(inside.getModifiers()));
            staticFields(inside);
        }
        staticFields(ArchiveDesk.class);
        Check.end("FaceTest");
    }

    private static void methods() {
        Set<String> found = new TreeSet<>();
        Set<String> names = new HashSet<>();
        for (Method method : ArchiveDesk.class.getDeclaredMethods()) {
            if (!Modifier.isPrivate(method.getModifiers()) && !method.isSynthetic()) {
                Check.yes(method + " is public", method.getModifiers() == Modifier.PUBLIC);
                found.add(method.getReturnType() + " " + method.getName()
                    + Arrays.toString(method.getParameterTypes()));
                names.add(method.getName());
            }
        }
        Check.yes("the methods " + found, found.equals(METHODS));
        for (Method method : ArchiveDesk.class.getDeclaredMethods()) {
            Check.no("a private " + method.getName(),
                Modifier.isPrivate(method.getModifiers()) && names.contains(method.getName()));
        }
    }

    private static void fields() {
        for (Field field : ArchiveDesk.class.getDeclaredFields()) {
            boolean none = field.getName().equals("NONE") && field.getType() == int.class
                && field.getModifiers() == (Modifier.PUBLIC | Modifier.STATIC | Modifier.FINAL);
            Check.yes("field " + field.getName(), none || Modifier.isPrivate(field.getModifiers()));
        }
    }

    private static void constructors() {
        Constructor<?>[] all = ArchiveDesk.class.getDeclaredConstructors();
        Check.same("constructors", all.length, 1);
        Check.same("its parameters", all[0].getParameterCount(), 0);
        Check.yes("it is public", Modifier.isPublic(all[0].getModifiers()));
    }

    private static void staticFields(Class<?> owner) {
        for (Field field : owner.getDeclaredFields()) {
            int modifiers = field.getModifiers();
            Check.yes("static " + field + " is final",
                !Modifier.isStatic(modifiers) || Modifier.isFinal(modifiers));
        }
    }
}
