import java.io.IOException;
import java.nio.file.Files;
import java.nio.file.Path;
import java.util.List;
import java.util.regex.Pattern;

/** Rules 4, 6, 12 and 13 of LANGUAGE.md, and the order to catch nothing that the machine throws, as the source shows them. */
public final class SourceTest {
    private static final Path SOURCE = Path.of("src", "main", "java", "RootDesk.java");

    /** The document names no exception, and the class needs nothing of the library. */
    private static final List<String> ABSENT = List.of(
        "\\b(throw|throws|try|catch|finally|assert|synchronized)\\b", "\\b(import|package)\\b",
        "\\b(System|Thread|Math|Arrays|Random)\\b", "->", "::", "\\bstatic\\s*\\{");

    /** No call makes an object: what is made is made with the desk. */
    private static final Pattern MADE_WITH_THE_DESK = Pattern.compile("private final \\S+ \\w+ = new .*;");

    private static final Due due = new Due();

    public static void main(String[] args) throws IOException {
        for (String line : Files.readAllLines(SOURCE)) {
            String code = line.strip();
            if (!code.startsWith("/*") && !code.startsWith("*") && !code.startsWith("//")) {
                look(code);
            }
        }
        due.end();
    }

    private static void look(String code) {
        for (String word : ABSENT) {
            due.is(code + " has " + word, Pattern.compile(word).matcher(code).find(), false);
        }
        if (code.contains("new ")) {
            due.is(code + " is a field", MADE_WITH_THE_DESK.matcher(code).matches(), true);
        }
    }
}
