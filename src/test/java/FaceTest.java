import java.lang.reflect.Constructor;
import java.lang.reflect.Field;
import java.lang.reflect.Method;
import java.lang.reflect.Modifier;
import java.util.HashSet;
import java.util.List;
import java.util.Set;
import java.util.TreeSet;

/** The class shows the document's face and nothing else (LANGUAGE.md, rules 1 and 5). */
final class FaceTest {
    private static final List<String> FACE = List.of(
            "int line int int int int int IllegalArgumentException IllegalStateException",
            "int run int IllegalArgumentException IllegalStateException",
            "int reset int IllegalArgumentException",
            "int push int boolean IndexOutOfBoundsException IllegalStateException",
            "int set int IllegalArgumentException",
            "int append int IllegalArgumentException IllegalStateException",
            "int clearBuffer",
            "int firstError",
            "int read IllegalArgumentException",
            "int undo IllegalStateException",
            "int lineOf int int IndexOutOfBoundsException IllegalArgumentException",
            "int at int int IllegalArgumentException",
            "int reads int IllegalArgumentException",
            "int count int IllegalArgumentException",
            "int untilRest",
            "int ifDropped int int int int IllegalArgumentException",
            "int bestColumn int int IllegalArgumentException",
            "int ifReset int IllegalArgumentException",
            "double fullness",
            "long digest");

    private FaceTest() {
    }

    public static void main(String[] args) {
        Class<?> face = FallingLines.class;
        Check.due("public and final", face.getModifiers(), Modifier.PUBLIC | Modifier.FINAL);
        methods(face);
        fields(face);
        constructors(face);
        inside(face);
        Check.end("FaceTest");
    }

    private static String told(Method m) {
        StringBuilder told = new StringBuilder(m.getReturnType().getSimpleName()).append(' ').append(m.getName());
        for (Class<?> type : m.getParameterTypes()) {
            told.append(' ').append(type.getSimpleName());
        }
        for (Class<?> type : m.getExceptionTypes()) {
            told.append(' ').append(type.getSimpleName());
        }
        return told.toString();
    }

    private static void methods(Class<?> face) {
        Set<String> found = new TreeSet<>();
        Set<String> names = new HashSet<>();
        for (Method m : face.getDeclaredMethods()) {
            if (!Modifier.isPrivate(m.getModifiers())) {
                Check.due(told(m) + " is public alone", m.getModifiers(), Modifier.PUBLIC);
                found.add(told(m));
                names.add(m.getName());
            }
        }
        Check.dueText("the face", found.toString(), new TreeSet<>(FACE).toString());
        for (Method m : face.getDeclaredMethods()) {
            boolean bears = Modifier.isPrivate(m.getModifiers()) && names.contains(m.getName());
            Check.due("a private method with a public name: " + m.getName(), bears ? 1 : 0, 0);
        }
    }

    private static void fields(Class<?> face) {
        for (Field f : face.getDeclaredFields()) {
            int m = f.getModifiers();
            boolean fine = f.getName().equals("NONE") ? Modifier.isPublic(m) : Modifier.isPrivate(m);
            Check.due("the field " + f.getName(), fine ? 1 : 0, 1);
        }
    }

    private static void constructors(Class<?> face) {
        Constructor<?>[] all = face.getDeclaredConstructors();
        Check.due("constructors", all.length, 1);
        Check.due("a public one without arguments",
                Modifier.isPublic(all[0].getModifiers()) ? all[0].getParameterCount() : -1, 0);
    }

    private static void inside(Class<?> face) {
        for (Class<?> c : face.getDeclaredClasses()) {
            int m = c.getModifiers();
            boolean fine = Modifier.isStatic(m) && !Modifier.isPublic(m) && !Modifier.isProtected(m);
            Check.due("the class " + c.getSimpleName(), fine ? 1 : 0, 1);
            for (Field f : c.getDeclaredFields()) {
                boolean shared = Modifier.isStatic(f.getModifiers()) && !Modifier.isFinal(f.getModifiers());
                Check.due("a static field that changes: " + f.getName(), shared ? 1 : 0, 0);
            }
        }
    }
}
