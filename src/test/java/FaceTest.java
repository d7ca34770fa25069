import java.lang.reflect.Constructor;
import java.lang.reflect.Field;
import java.lang.reflect.Method;
import java.lang.reflect.Modifier;
import java.util.TreeSet;

/** The class shows the document's face, with its throws clauses, and nothing else. */
public final class FaceTest {
    private static final String B = "IndexOutOfBoundsException";
    private static final String A = "IllegalArgumentException";
    private static final String S = "IllegalStateException";

    private static final String[] FACE = {
        "int setStrength(int int int) " + B + " " + A,
        "int setClass(int int) " + B + " " + A,
        "int setReserve(int) " + A,
        "int tell(int) " + A + " " + S,
        "int frame(int int int) " + B + " " + A + " " + S,
        "int pass(int) " + A,
        "int now()",
        "boolean sends(int) " + B,
        "int waitOf(int) " + B,
        "int window(int) " + B,
        "int failures(int) " + B,
        "int silencedTo(int) " + B,
        "int frames(int) " + B,
        "int partsLeft(int) " + B,
        "int delivered(int) " + B,
        "int dropped(int) " + B,
        "int airtime(int) " + B,
        "int airtimeBySendings(int) " + B,
        "int numbers()",
    };

    private static final Checks checks = new Checks();

    public static void main(String[] args) {
        Class<?> its = BackofficeAir.class;
        checks.due("the class", "public final", () -> Modifier.toString(its.getModifiers()));
        methods(its);
        fields(its);
        constructors(its);
        classesInside(its);
        checks.close("FaceTest");
    }

    private static void methods(Class<?> its) {
        TreeSet<String> want = new TreeSet<>();
        for (String method : FACE) {
            want.add("public " + method);
        }
        TreeSet<String> got = new TreeSet<>();
        for (Method method : its.getDeclaredMethods()) {
            if (!Modifier.isPrivate(method.getModifiers()) && !method.isSynthetic()) {
                got.add(told(method));
            }
        }
        checks.due("the methods", want, () -> got);
    }

    private static String told(Method method) {
        String text = Modifier.toString(method.getModifiers()) + " " + method.getReturnType().getSimpleName()
            + " " + method.getName() + "(" + names(method.getParameterTypes()) + ") "
            + names(method.getExceptionTypes());
        return text.trim();
    }

    private static String names(Class<?>[] types) {
        StringBuilder text = new StringBuilder();
        for (Class<?> type : types) {
            text.append(text.length() == 0 ? "" : " ").append(type.getSimpleName());
        }
        return text.toString();
    }

    private static void fields(Class<?> its) {
        for (Field field : its.getDeclaredFields()) {
            String want = field.getName().equals("NONE") ? "public static final" : "private";
            checks.due("the field " + field.getName(), true,
                () -> Modifier.toString(field.getModifiers()).startsWith(want));
        }
        checks.due("NONE is there", "int", () -> its.getField("NONE").getType().getName());
    }

    private static void constructors(Class<?> its) {
        checks.due("one constructor", 1, () -> its.getDeclaredConstructors().length);
        Constructor<?> one = its.getDeclaredConstructors()[0];
        checks.due("without parameters", "public 0",
            () -> Modifier.toString(one.getModifiers()) + " " + one.getParameterCount());
    }

    private static void classesInside(Class<?> its) {
        for (Class<?> inside : its.getDeclaredClasses()) {
            int modifiers = inside.getModifiers();
            checks.due("the class inside " + inside.getSimpleName(), true, () -> Modifier.isStatic(modifiers)
                && !Modifier.isPublic(modifiers) && !Modifier.isProtected(modifiers));
            for (Method method : inside.getDeclaredMethods()) {
                checks.due("the name " + method.getName(), false, () -> isOfTheFace(method.getName()));
            }
        }
    }

    private static boolean isOfTheFace(String name) {
        for (String method : FACE) {
            if (method.contains(" " + name + "(")) {
                return true;
            }
        }
        return false;
    }
}
