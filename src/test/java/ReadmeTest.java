import java.io.IOException;
import java.lang.reflect.InvocationTargetException;
import java.lang.reflect.Method;
import java.lang.reflect.Modifier;
import java.nio.charset.StandardCharsets;
import java.nio.file.Files;
import java.nio.file.Path;
import java.util.Arrays;
import java.util.List;
import java.util.regex.Matcher;
import java.util.regex.Pattern;
import java.util.stream.Stream;

/** README.md's example answers what stands behind its calls, and README.md names every call and every test. */
public final class ReadmeTest {
    private static final Path README = Path.of("README.md");
    private static final Path TESTS = Path.of("src", "test", "java");
    private static final String MADE = "    BackofficeAir air = new BackofficeAir();";
    private static final Pattern CALL = Pattern.compile(" {4}air\\.(\\w+)\\(([-\\d, ]*)\\); +// ([-\\w]+): .+");

    private static final Checks checks = new Checks();

    public static void main(String[] args) throws IOException {
        String readme = Files.readString(README, StandardCharsets.UTF_8);
        example(readme.lines().toList());
        for (Method method : BackofficeAir.class.getDeclaredMethods()) {
            if (Modifier.isPublic(method.getModifiers())) {
                isNamed(readme, method.getName());
            }
        }
        try (Stream<Path> files = Files.list(TESTS)) {
            files.map(file -> file.getFileName().toString()).filter(name -> name.endsWith("Test.java"))
                .forEach(name -> isNamed(readme, name.replace(".java", "")));
        }
        isNamed(readme, "../shared/tests");
        checks.due("how to run the tests", true, () -> readme.contains("\n    .ci/run\n"));
        checks.close("ReadmeTest");
    }

    private static void isNamed(String readme, String name) {
        checks.due("README.md names " + name, true, () -> readme.contains("`" + name + "`"));
    }

    /** The calls on one object, from the line that makes it up to the next empty line. */
    private static void example(List<String> lines) {
        int start = lines.indexOf(MADE) + 1;
        checks.due("the example makes an object", true, () -> start > 0);
        BackofficeAir air = new BackofficeAir();
        int calls = 0;
        for (int i = start; i < lines.size() && !lines.get(i).isEmpty(); i++) {
            String line = lines.get(i);
            Matcher call = CALL.matcher(line);
            checks.due("a call with its answer: " + line.strip(), true, call::matches);
            if (call.matches()) {
                checks.due(line.strip(), call.group(3), () -> answer(air, call.group(1), call.group(2)));
                calls++;
            }
        }
        boolean hasCalls = calls > 10;
        checks.due("the example has calls", true, () -> hasCalls);
    }

    /** What a call answers, as a text, or the simple name of the exception that it throws. */
    private static String answer(BackofficeAir air, String name, String told) throws ReflectiveOperationException {
        Object[] inputs = Stream.of(told.split(", *")).filter(one -> !one.isEmpty()).map(Integer::valueOf).toArray();
        Class<?>[] types = new Class<?>[inputs.length];
        Arrays.fill(types, int.class);
        try {
            return String.valueOf(BackofficeAir.class.getMethod(name, types).invoke(air, inputs));
        } catch (InvocationTargetException thrown) {
            return thrown.getCause().getClass().getSimpleName();
        }
    }
}
