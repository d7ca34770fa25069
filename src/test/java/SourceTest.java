import java.nio.charset.StandardCharsets;
import java.nio.file.Files;
import java.nio.file.Path;
import java.util.List;

/** The source keeps to those rules of ../shared/LANGUAGE.md that can be seen from its lines. */
public final class SourceTest {
    private static final Path SOURCE = Path.of("src", "main", "java", "BackofficeAir.java");
    private static final int LONGEST_METHOD = 60;
    private static final String[] RULED_OUT = {
        "package ", "import ", "->", "::", "try ", "catch", "finally", "synchronized", "assert ", "instanceof",
        "equals(", "hashCode", "toString", "float", "double", "Random", "System.nano", "System.current", "Thread",
        "while (true)", "for (;;)", "static {", "protected ", "Exact(",
    };

    private static final Checks checks = new Checks();

    public static void main(String[] args) throws Exception {
        String source = Files.readString(SOURCE, StandardCharsets.ISO_8859_1);
        for (String text : RULED_OUT) {
            checks.due("the source has '" + text + "'", false, () -> source.contains(text));
        }
        checks.due("signs above 126", 0L, () -> source.chars().filter(sign -> sign > 126).count());
        checks.due("a text joined by +", false, () -> source.contains("\" +") || source.contains("+ \""));
        methodsAreShort(source.lines().toList());
        checks.close("SourceTest");
    }

    /** A method's head ends with an opening brace, and its last line is a brace in the column of the head. */
    private static void methodsAreShort(List<String> lines) {
        for (int i = 0; i < lines.size(); i++) {
            String head = lines.get(i);
            if (!head.matches(" {4,8}[^ /*].*[)(].*") || head.endsWith(";")) {
                continue;
            }
            String close = head.substring(0, head.length() - head.stripLeading().length()) + "}";
            int end = i;
            while (end < lines.size() && !lines.get(end).equals(close)) {
                end++;
            }
            int length = end - i + 1;
            checks.due("short: " + head.strip(), true, () -> length <= LONGEST_METHOD);
        }
    }
}
