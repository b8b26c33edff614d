import java.lang.reflect.Constructor;
import java.lang.reflect.Field;
import java.lang.reflect.Method;
import java.lang.reflect.Modifier;
import java.util.HashSet;
import java.util.Set;
import java.util.TreeSet;

/** The face of the class is the document's, and no more. */
public final class FaceTest {
    private static final Due DUE = new Due();
    private static final Class<?> FACE = BoundCode.class;
    private static final String[] METHODS = {
        "int method(int arguments, int results, int locals) throws IllegalArgumentException",
        "int add(int method, int operation, long arg) throws IndexOutOfBoundsException",
        "int change(int method, int i, int operation, long arg) throws IndexOutOfBoundsException",
        "int cost(int operation, int cycles) throws IndexOutOfBoundsException, "
            + "IllegalArgumentException",
        "int check(int method) throws IndexOutOfBoundsException",
        "int place()",
        "int height(int method, int i) throws IndexOutOfBoundsException",
        "int analyse(int method) throws IndexOutOfBoundsException",
        "int told(int method, int what) throws IndexOutOfBoundsException",
        "long bound(int method, int what) throws IndexOutOfBoundsException",
        "int argument(long v) throws IllegalStateException",
        "int run(int method, int most) throws IndexOutOfBoundsException, IllegalArgumentException",
        "long ran(int what) throws IndexOutOfBoundsException",
        "int about(int method, int what) throws IndexOutOfBoundsException",
    };

    public static void main(String[] args) {
        classes();
        constructor();
        methods();
        fields();
        DUE.end();
    }

    private static void classes() {
        DUE.sentence("public final class BoundCode {");
        holds("public and final", Modifier.isPublic(FACE.getModifiers())
                && Modifier.isFinal(FACE.getModifiers()));
        for (Class<?> inside : FACE.getDeclaredClasses()) {
            holds(inside + " is static and hidden", Modifier.isStatic(inside.getModifiers())
                    && !Modifier.isPublic(inside.getModifiers())
                    && !Modifier.isProtected(inside.getModifiers()));
            staticsAreFinal(inside);
        }
    }

    private static void constructor() {
        DUE.sentence("public BoundCode();");
        Constructor<?>[] made = FACE.getDeclaredConstructors();
        holds("one constructor", made.length == 1 && made[0].getParameterCount() == 0
                && Modifier.isPublic(made[0].getModifiers())
                && made[0].getExceptionTypes().length == 0);
    }

    private static void methods() {
        Set<String> open = new TreeSet<>();
        Set<String> names = new HashSet<>();
        DUE.sentence("## The public face");
        for (Method m : FACE.getDeclaredMethods()) {
            if (!Modifier.isPrivate(m.getModifiers())) {
                holds(m + " is public and no static", m.getModifiers() == Modifier.PUBLIC);
                open.add(written(m));
                names.add(m.getName());
            }
        }
        for (Method m : FACE.getDeclaredMethods()) {
            holds(m + " bears no public name", !Modifier.isPrivate(m.getModifiers())
                    || !names.contains(m.getName()));
        }
        DUE.is("public methods", open.size(), METHODS.length);
        for (String due : METHODS) {
            DUE.sentence("public " + due + ";");
            holds("it is among " + open, open.contains(withoutNames(due)));
        }
    }

    private static String withoutNames(String due) {
        return due.replaceAll("(int|long) \\w+(?=[,)])", "$1");
    }

    private static String written(Method m) {
        return m.getReturnType() + " " + m.getName() + "(" + names(m.getParameterTypes()) + ")"
                + (m.getExceptionTypes().length > 0 ? " throws " : "")
                + names(m.getExceptionTypes());
    }

    private static String names(Class<?>[] classes) {
        String[] all = new String[classes.length];
        for (int k = 0; k < all.length; k++) {
            all[k] = classes[k].getSimpleName();
        }
        return String.join(", ", all);
    }

    private static void fields() {
        DUE.sentence("public static final int NONE = -1;");
        int open = 0;
        for (Field f : FACE.getDeclaredFields()) {
            boolean isNone = f.getName().equals("NONE") && f.getType() == int.class
                    && Modifier.isPublic(f.getModifiers());
            holds(f + " is hidden, but for NONE", isNone || Modifier.isPrivate(f.getModifiers()));
            open += isNone ? 1 : 0;
        }
        DUE.is("public fields", open, 1);
        DUE.is("NONE", BoundCode.NONE, -1);
        staticsAreFinal(FACE);
    }

    private static void staticsAreFinal(Class<?> c) {
        for (Field f : c.getDeclaredFields()) {
            holds(f + " is final if it is static", !Modifier.isStatic(f.getModifiers())
                    || Modifier.isFinal(f.getModifiers()));
        }
    }

    private static void holds(String what, boolean isSo) {
        DUE.is(what, isSo ? 1 : 0, 1);
    }
}
