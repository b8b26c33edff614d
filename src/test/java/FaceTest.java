import java.lang.reflect.Constructor;
import java.lang.reflect.Field;
import java.lang.reflect.Method;
import java.lang.reflect.Modifier;
import java.util.Arrays;
import java.util.HashSet;
import java.util.Set;
import java.util.TreeSet;

/** The face of the class is the document's, and no more. */
public final class FaceTest {
    private static final Due DUE = new Due();
    private static final String INDEX = " throws IndexOutOfBoundsException";
    private static final String BOTH = INDEX + " IllegalArgumentException";
    private static final String[] FACE = {
        "int method(int int int) throws IllegalArgumentException",
        "int add(int int long)" + INDEX,
        "int change(int int int long)" + INDEX,
        "int cost(int int)" + BOTH,
        "int check(int)" + INDEX,
        "int place()",
        "int height(int int)" + INDEX,
        "int analyse(int)" + INDEX,
        "int told(int int)" + INDEX,
        "long bound(int int)" + INDEX,
        "int argument(long) throws IllegalStateException",
        "int run(int int)" + BOTH,
        "long ran(int)" + INDEX,
        "int about(int int)" + INDEX,
    };

    public static void main(String[] args) {
        Class<?> face = BoundCode.class;
        holds("public and final", Modifier.isPublic(face.getModifiers())
                && Modifier.isFinal(face.getModifiers()));
        Constructor<?>[] made = face.getDeclaredConstructors();
        holds("one constructor", made.length == 1 && made[0].getParameterCount() == 0
                && Modifier.isPublic(made[0].getModifiers()));
        methods(face);
        fields(face);
        for (Class<?> inside : face.getDeclaredClasses()) {
            holds(inside + " is static and hidden", Modifier.isStatic(inside.getModifiers())
                    && !Modifier.isPublic(inside.getModifiers())
                    && !Modifier.isProtected(inside.getModifiers()));
            staticsAreFinal(inside);
        }
        DUE.end();
    }

    private static void methods(Class<?> face) {
        Set<String> open = new TreeSet<>();
        Set<String> names = new HashSet<>();
        for (Method m : face.getDeclaredMethods()) {
            if (!Modifier.isPrivate(m.getModifiers())) {
                holds(m + " is public and no static", m.getModifiers() == Modifier.PUBLIC);
                open.add(written(m));
                names.add(m.getName());
            }
        }
        Set<String> due = new TreeSet<>(Arrays.asList(FACE));
        holds("methods are " + open + ", due are " + due, open.equals(due));
        for (Method m : face.getDeclaredMethods()) {
            holds(m + " bears no public name", !Modifier.isPrivate(m.getModifiers())
                    || !names.contains(m.getName()));
        }
    }

    private static String written(Method m) {
        return m.getReturnType() + " " + m.getName() + "(" + names(m.getParameterTypes()) + ")"
                + (m.getExceptionTypes().length > 0 ? " throws " : "")
                + names(m.getExceptionTypes());
    }

    private static String names(Class<?>[] classes) {
        String[] all = new String[classes.length];
        for (int k = 0; k < all.length; k++) {
            all[k] = classes[k].getSimpleName();
        }
        return String.join(" ", all);
    }

    private static void fields(Class<?> face) {
        for (Field f : face.getDeclaredFields()) {
            holds(f + " is hidden, but for NONE", f.getName().equals("NONE")
                    == !Modifier.isPrivate(f.getModifiers()));
        }
        staticsAreFinal(face);
    }

    private static void staticsAreFinal(Class<?> c) {
        for (Field f : c.getDeclaredFields()) {
            holds(f + " is final if it is static", !Modifier.isStatic(f.getModifiers())
                    || Modifier.isFinal(f.getModifiers()));
        }
    }

    private static void holds(String what, boolean isSo) {
        DUE.is(what, isSo ? 1 : 0, 1);
    }
}
