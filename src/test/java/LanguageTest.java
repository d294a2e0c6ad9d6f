import java.io.IOException;
import java.nio.charset.StandardCharsets;
import java.nio.file.Files;
import java.nio.file.Path;
import java.util.regex.Matcher;
import java.util.regex.Pattern;

/** Finds what LANGUAGE.md rules out, as far as the text of the class shows it; run from the project's folder. */
final class LanguageTest {
    private static final Path SOURCE = Path.of("src", "main", "java", "WaitingRoomSimulation.java");
    // LANGUAGE.md allows some catches; the class does without, so that nothing of the machine is ever caught.
    private static final String[] RULED_OUT = {"->", "::", "\\bfinally\\b", "\\bsynchronized\\b", "\\bassert\\b",
        "\\bcatch\\b", "\\bpackage\\b", "\\+=? ?\"", "\" ?\\+", "Exact\\(", "\\bvar\\b", "\\bSystem\\.(?!arraycopy)",
        "\\bThread\\b", "\\bstatic \\{", "Math\\.(?!(max|min|abs|floorDiv|floorMod)\\()", "\\bgetMessage\\b",
        "\\bString\\.", "\\b(equals|hashCode|toString)\\(.*\\) \\{", "^import (?!java\\.util\\.NoSuchElementException;)"};
    private static final Pattern THROWN = Pattern.compile("throw new (\\w+)\\((\"[^\"]*\")?\\);");

    private LanguageTest() {
    }

    static void run() {
        String[] lines = read().split("\n");
        int throwing = 0;
        for (int i = 0; i < lines.length; i++) {
            String code = lines[i].replaceAll("//.*|^\\s*/?\\*.*", "");
            for (String wrong : RULED_OUT) {
                Check.same("language: line " + (i + 1) + " has " + wrong, Pattern.compile(wrong).matcher(code).find(),
                        false);
            }
            if (code.contains("throw ")) {
                throwing++;
                Matcher matcher = THROWN.matcher(code);
                Check.same("language: line " + (i + 1) + " throws by rule 6", matcher.find(), true);
            }
        }
        Check.same("language: the throws were found", throwing > 20, true);
    }

    private static String read() {
        try {
            return Files.readString(SOURCE, StandardCharsets.US_ASCII);
        } catch (IOException e) {
            return "package: the file cannot be read as ASCII";
        }
    }
}
