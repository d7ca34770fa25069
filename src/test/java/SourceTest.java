import java.nio.charset.StandardCharsets;
import java.nio.file.Files;
import java.nio.file.Path;
import java.util.List;
import java.util.regex.Matcher;
import java.util.regex.Pattern;

/**
 * The source keeps to those rules of ../shared/LANGUAGE.md that can be seen from its lines, and its calls stand in the
 * document's order below the heads that the document tells.
 */
public final class SourceTest {
    private static final Path SOURCE = Path.of("src", "main", "java", "BackofficeAir.java");
    private static final int LONGEST_METHOD = 60;
    private static final String[] RULED_OUT = {
        "package ", "import ", "->", "::", "try ", "catch", "finally", "synchronized", "assert ", "instanceof",
        "equals(", "hashCode", "toString", "float", "double", "Random", "System.nano", "System.current", "Thread",
        "while (true)", "for (;;)", "static {", "protected ", "Exact(",
    };

    private static final String[] HEADS_AND_CALLS = {
        "// ---- settings", "setStrength", "setClass", "setReserve", "tell",
        "// ---- frames and slots", "frame", "pass", "now",
        "// ---- how stations stand", "sends", "waitOf", "window", "failures", "silencedTo", "frames", "partsLeft",
        "delivered", "dropped", "airtime", "airtimeBySendings", "numbers",
    };

    private static final Checks checks = new Checks();

    public static void main(String[] args) throws Exception {
        String source = Files.readString(SOURCE, StandardCharsets.ISO_8859_1);
        for (String text : RULED_OUT) {
            checks.due("the source has '" + text + "'", false, () -> source.contains(text));
        }
        checks.due("signs above 126", 0L, () -> source.chars().filter(sign -> sign > 126).count());
        checks.due("a text joined by +", false, () -> source.contains("\" +") || source.contains("+ \""));
        methodsAreShort(source.lines().toList());
        headsStandAheadOfTheirCalls(source);
        checks.close("SourceTest");
    }

    /** A method's head ends with an opening brace, and its last line is a brace in the column of the head. */
    private static void methodsAreShort(List<String> lines) {
        for (int i = 0; i < lines.size(); i++) {
            String head = lines.get(i);
            if (!head.matches(" {4,8}[^ /*].*[)(].*") || head.endsWith(";")) {
                continue;
            }
            String close = head.substring(0, head.length() - head.stripLeading().length()) + "}";
            int end = i;
            while (end < lines.size() && !lines.get(end).equals(close)) {
                end++;
            }
            int length = end - i + 1;
            checks.due("short: " + head.strip(), true, () -> length <= LONGEST_METHOD);
        }
    }

    private static void headsStandAheadOfTheirCalls(String source) {
        int after = 0;
        for (String one : HEADS_AND_CALLS) {
            Matcher matcher = Pattern.compile(one.startsWith("//") ? "(?m)^ {4}" + one + "$"
                : "(?m)^ {4}public (int|boolean) " + one + "\\(").matcher(source);
            boolean isThere = matcher.find(after);
            checks.due(one + " stands in its order", true, () -> isThere);
            after = isThere ? matcher.end() : after;
        }
    }
}
