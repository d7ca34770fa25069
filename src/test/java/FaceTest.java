import java.io.IOException;
import java.lang.reflect.Constructor;
import java.lang.reflect.Field;
import java.lang.reflect.Method;
import java.lang.reflect.Modifier;
import java.nio.charset.StandardCharsets;
import java.nio.file.Files;
import java.nio.file.Path;
import java.util.TreeMap;
import java.util.TreeSet;
import java.util.regex.Matcher;
import java.util.regex.Pattern;

/** The class shows the face that ../shared/DOC.md writes out, with its throws clauses, and nothing else. */
public final class FaceTest {
    private static final Path DOCUMENT = Path.of("..", "shared", "DOC.md");
    private static final Pattern METHOD =
        Pattern.compile("public (boolean|int) (\\w+)\\(([^)]*)\\)(?: throws ([\\w, ]+))?;");
    private static final Pattern CONSTANT = Pattern.compile("public static final int (\\w+) = (-?\\d+);");

    private static final Checks checks = new Checks();
    private static final TreeSet<String> methods = new TreeSet<>();
    private static final TreeSet<String> names = new TreeSet<>();
    private static final TreeMap<String, Integer> constants = new TreeMap<>();

    public static void main(String[] args) throws IOException {
        readTheFace();
        Class<?> its = BackofficeAir.class;
        checks.due("the class", "public final", () -> Modifier.toString(its.getModifiers()));
        methods(its);
        fields(its);
        constructors(its);
        classesInside(its);
        checks.close("FaceTest");
    }

    /** Takes each line of the face out of the document; a line of another form is a fault. */
    private static void readTheFace() throws IOException {
        String document = Files.readString(DOCUMENT, StandardCharsets.UTF_8);
        int start = document.indexOf("```java\n");
        String face = document.substring(start + 8, document.indexOf("```\n", start + 8));
        StringBuilder rest = new StringBuilder();
        for (String line : face.lines().map(String::strip).toList()) {
            Matcher method = METHOD.matcher(line);
            Matcher constant = CONSTANT.matcher(line);
            if (method.matches()) {
                methods.add(methodOfTheFace(method));
                names.add(method.group(2));
                headIsTheSame(document, line);
            } else if (constant.matches()) {
                constants.put(constant.group(1), Integer.parseInt(constant.group(2)));
            } else {
                rest.append(line).append('\n');
            }
        }
        checks.due("the other lines of the face",
            "public final class BackofficeAir {\npublic BackofficeAir();\n}\n", rest::toString);
        checks.due("methods of the face", 19, methods::size);
        checks.due("constants of the face", 1, constants::size);
    }

    /** A promise's head tells its call once more; it must not tell another one. */
    private static void headIsTheSame(String document, String line) {
        String head = "\n`" + line.replace("public ", "").replace(";", "") + "`: ";
        checks.due("a promise has the head " + head.strip(), true, () -> document.contains(head));
    }

    private static String methodOfTheFace(Matcher method) {
        String types = method.group(3).replaceAll(" \\w+(, |$)", " ").trim();
        String thrown = method.group(4) == null ? "" : method.group(4).replace(",", "");
        return ("public " + method.group(1) + " " + method.group(2) + "(" + types + ") " + thrown).trim();
    }

    private static void methods(Class<?> its) {
        TreeSet<String> got = new TreeSet<>();
        for (Method method : its.getDeclaredMethods()) {
            if (!Modifier.isPrivate(method.getModifiers()) && !method.isSynthetic()) {
                got.add(told(method));
            } else {
                checks.due("the private name " + method.getName(), false, () -> names.contains(method.getName()));
            }
        }
        checks.due("the methods", methods, () -> got);
    }

    private static String told(Method method) {
        String text = Modifier.toString(method.getModifiers()) + " " + method.getReturnType().getSimpleName()
            + " " + method.getName() + "(" + names(method.getParameterTypes()) + ") "
            + names(method.getExceptionTypes());
        return text.trim();
    }

    private static String names(Class<?>[] types) {
        StringBuilder text = new StringBuilder();
        for (Class<?> type : types) {
            text.append(text.length() == 0 ? "" : " ").append(type.getSimpleName());
        }
        return text.toString();
    }

    private static void fields(Class<?> its) {
        for (Field field : its.getDeclaredFields()) {
            boolean isConstant = constants.containsKey(field.getName());
            checks.due("the field " + field.getName(), true, () -> Modifier.toString(field.getModifiers())
                .startsWith(isConstant ? "public static final" : "private"));
        }
        constants.forEach((name, value) -> {
            checks.due(name + " is there", "int", () -> its.getField(name).getType().getName());
            checks.due(name, value, () -> its.getField(name).getInt(null));
        });
    }

    private static void constructors(Class<?> its) {
        checks.due("one constructor", 1, () -> its.getDeclaredConstructors().length);
        Constructor<?> one = its.getDeclaredConstructors()[0];
        checks.due("without parameters", "public 0",
            () -> Modifier.toString(one.getModifiers()) + " " + one.getParameterCount());
    }

    private static void classesInside(Class<?> its) {
        for (Class<?> inside : its.getDeclaredClasses()) {
            int modifiers = inside.getModifiers();
            checks.due("the class inside " + inside.getSimpleName(), true, () -> Modifier.isStatic(modifiers)
                && !Modifier.isPublic(modifiers) && !Modifier.isProtected(modifiers));
            for (Method method : inside.getDeclaredMethods()) {
                checks.due("the name " + method.getName(), false, () -> names.contains(method.getName()));
            }
        }
    }
}
