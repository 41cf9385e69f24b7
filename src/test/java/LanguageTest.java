import java.io.IOException;
import java.nio.file.Files;
import java.nio.file.Path;
import java.util.List;
import java.util.regex.Pattern;

/** Those rules of LANGUAGE.md that can be seen in the text of the class: a guard, no proof. */
public final class LanguageTest {
    private static final Path FILE = Path.of("src/main/java/FestivalFields.java");
    private static final int LINES_MOST = 60;
    private static final String EXCEPTIONS = "(IllegalStateException|IllegalArgumentException|IndexOutOfBoundsException"
        + "|ArithmeticException|UnsupportedOperationException|NoSuchElementException|RuntimeException)";
    private static final List<String> REFUSED = List.of("\\bpackage\\b", "^(?!\\s*(case|default)\\b).*->", "::",
        "\\bfinally\\b", "\\bsynchronized\\b", "\\bassert\\b", "\\bcatch \\((?!" + EXCEPTIONS + "\\b)",
        "\\bthrow (?!new " + EXCEPTIONS + "\\((\"[^\"]*\")?\\);)", "\\bstatic (?!final\\b)\\w+(\\[\\])* \\w+( =|;)",
        "\\bstatic \\{", "Exact\\(", "\\bSystem\\.(?!arraycopy)", "\\bObject\\b", "\\bprotected\\b",
        "\\bwhile \\(true\\)", "\\bfor \\(;;");
    private static final List<String> IMPORTS = List.of("ArrayList", "Arrays", "Iterator", "List", "NoSuchElementException");

    public static void main(String[] args) throws IOException {
        Due due = new Due();
        List<String> lines = Files.readAllLines(FILE);
        for (int i = 0; i < lines.size(); i++) {
            String line = lines.get(i);
            String code = isComment(line) ? "" : line.replaceAll("//.*", "");
            for (String pattern : REFUSED) {
                due.no("line " + (i + 1) + " has " + pattern, Pattern.compile(pattern).matcher(code).find());
            }
            if (code.startsWith("import")) {
                String name = code.replaceAll("import java\\.util\\.(\\w+);", "$1");
                due.yes("line " + (i + 1) + ": " + code, IMPORTS.contains(name));
            }
            due.no("line " + (i + 1) + " has a sign above 127", code.chars().anyMatch(c -> c > 127));
        }
        lengths(due, lines);
        due.end();
    }

    private static boolean isComment(String line) {
        String text = line.strip();
        return text.startsWith("/*") || text.startsWith("*");
    }

    /** A method ends at the first brace of its own indent: 4 in the class, 8 in one inside it. */
    private static void lengths(Due due, List<String> lines) {
        for (int i = 0; i < lines.size(); i++) {
            String line = lines.get(i);
            boolean method = line.matches(" {4}( {4})?\\w.*\\) ?.*\\{") && !line.contains(" class ");
            for (int k = i; method && k < lines.size(); k++) {
                if (lines.get(k).equals(line.replaceAll("\\S.*", "") + "}")) {
                    due.yes("the method at line " + (i + 1) + " is short", k - i + 1 <= LINES_MOST);
                    break;
                }
            }
        }
    }
}
