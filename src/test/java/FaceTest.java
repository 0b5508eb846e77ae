import java.lang.reflect.Constructor;
import java.lang.reflect.Field;
import java.lang.reflect.Method;
import java.lang.reflect.Modifier;
import java.util.Arrays;
import java.util.Set;
import java.util.TreeSet;

/** The public face: just the document's members, and no private method with a public one's name. */
public final class FaceTest {
    private static final Set<String> METHODS = new TreeSet<>(Arrays.asList(
        "boolean add(int, int, int, int)", "int clear(int)", "int length(int, int)",
        "boolean isLong(int, int)", "boolean store(int, int)", "boolean remove(int)", "int member(int)",
        "boolean item(int)", "void newLine()", "int link(int)", "int included(int)", "int missing()",
        "int size(int)", "int word(int)", "int symbol(int)", "boolean strip()", "boolean start()",
        "boolean feed(int)", "int run(int)", "int register(int)", "int memory(int)"));

    public static void main(String[] args) {
        Check c = new Check();
        Class<?> face = SpanLinker.class;
        c.due("public final", Modifier.isPublic(face.getModifiers()) && Modifier.isFinal(face.getModifiers()), true);
        methods(c, face);
        fields(c, face);
        constructors(c, face);
        nestedClasses(c, face);
        c.end();
    }

    private static String described(Method m) {
        String list = Arrays.toString(m.getParameterTypes());
        return m.getReturnType() + " " + m.getName() + "(" + list.substring(1, list.length() - 1) + ")";
    }

    private static boolean bearsPublicName(String name) {
        for (String method : METHODS) {
            if (method.contains(" " + name + "(")) {
                return true;
            }
        }
        return false;
    }

    private static void methods(Check c, Class<?> face) {
        Set<String> found = new TreeSet<>();
        for (Method m : face.getDeclaredMethods()) {
            if (Modifier.isPublic(m.getModifiers())) {
                found.add(described(m));
                c.due(m.getName() + " is static", Modifier.isStatic(m.getModifiers()), false);
            } else {
                c.due(m.getName() + " is private", Modifier.isPrivate(m.getModifiers()), true);
                c.due(m.getName() + " bears a public name", bearsPublicName(m.getName()), false);
            }
        }
        c.due("the methods " + found, found.equals(METHODS), true);
    }

    private static void fields(Check c, Class<?> face) {
        Set<String> found = new TreeSet<>();
        for (Field f : face.getDeclaredFields()) {
            if (Modifier.isPublic(f.getModifiers())) {
                found.add(f.getType() + " " + f.getName());
                c.due(f.getName() + " is a constant",
                    Modifier.isStatic(f.getModifiers()) && Modifier.isFinal(f.getModifiers()), true);
            } else {
                c.due(f.getName() + " is private", Modifier.isPrivate(f.getModifiers()), true);
            }
        }
        c.due("the fields " + found, found.toString().equals("[int DOUBLE, int LONG, int UNDEFINED]"), true);
    }

    private static void constructors(Check c, Class<?> face) {
        Constructor<?>[] all = face.getDeclaredConstructors();
        c.due("constructors", all.length, 1);
        c.due("its parameters", all[0].getParameterCount(), 0);
        c.due("it is public", Modifier.isPublic(all[0].getModifiers()), true);
    }

    private static void nestedClasses(Check c, Class<?> face) {
        for (Class<?> nested : face.getDeclaredClasses()) {
            c.due(nested + " is static", Modifier.isStatic(nested.getModifiers()), true);
            c.due(nested + " is hidden", Modifier.isPublic(nested.getModifiers())
                || Modifier.isProtected(nested.getModifiers()), false);
            for (Method m : nested.getDeclaredMethods()) {
                c.due(m + " bears a public name", bearsPublicName(m.getName()), false);
            }
        }
    }
}
