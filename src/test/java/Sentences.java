import java.io.IOException;
import java.nio.charset.StandardCharsets;
import java.nio.file.Files;
import java.nio.file.Path;
import java.util.LinkedHashMap;
import java.util.Map;
import java.util.concurrent.Callable;

/**
 * The sentences of ../shared/DOC.md. Each test takes the sentence that it stands for out of its section, so that a
 * sentence that nobody stands for, or that the document does not hold, is found at the end.
 */
final class Sentences {
    private static final Path DOCUMENT = Path.of("..", "shared", "DOC.md");
    private static final String FACE = "```java [^`]*```";
    private static final String HEAD_OF_CALL = "`[A-Za-z ]+\\([^`]*`:";

    private final Checks checks = new Checks();
    private final Map<String, String> left = new LinkedHashMap<>();
    private String section = "";
    private String sentence = "";
    private boolean isTested = true;

    Sentences() throws IOException {
        String document = Files.readString(DOCUMENT, StandardCharsets.UTF_8);
        for (String part : document.split("\n## ")) {
            int end = part.indexOf('\n');
            left.put(part.substring(0, end).strip(), part.substring(end).replaceAll("\\s+", " "));
        }
    }

    /** The sentences that follow stand in this section. */
    void in(String title) {
        section = title;
        checks.due("the document has the section " + title, true, () -> left.containsKey(title));
    }

    /** The answers that follow are due by this sentence. */
    void says(String its) {
        take(its);
        isTested = false;
    }

    /** A sentence that names nothing that a call could answer. */
    void tells(String its) {
        take(its);
        isTested = true;
    }

    void due(String name, Object want, Callable<?> call) {
        isTested = true;
        checks.due("'" + sentence + "': " + name, want, call);
    }

    /** Whether nothing is left of any section but the face and the heads of the calls, which FaceTest looks at. */
    void allAreTaken() {
        isCurrentTested();
        checks.due("the sections", 25, left::size);
        left.forEach((title, text) -> checks.due("sentences without a test in " + title, "",
            () -> text.replaceAll(FACE, "").replaceAll(HEAD_OF_CALL, "").strip()));
    }

    void close(String test) {
        checks.close(test);
    }

    private void take(String its) {
        isCurrentTested();
        String text = left.getOrDefault(section, "");
        int start = text.indexOf(its);
        checks.due(section + " says '" + its + "'", true, () -> start >= 0);
        if (start >= 0) {
            left.put(section, text.substring(0, start) + text.substring(start + its.length()));
        }
        sentence = its;
    }

    private void isCurrentTested() {
        boolean its = isTested;
        checks.due("'" + sentence + "' has a test", true, () -> its);
    }
}
