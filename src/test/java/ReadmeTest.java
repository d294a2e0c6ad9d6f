import java.io.IOException;
import java.lang.reflect.Method;
import java.lang.reflect.Modifier;
import java.nio.charset.StandardCharsets;
import java.nio.file.Files;
import java.nio.file.Path;
import java.util.regex.Matcher;
import java.util.regex.Pattern;

/** README.md names every call, and its examples answer as it says; run from the project's folder. */
final class ReadmeTest {
    private static final String TYPED = "for \\(char character : \"(.*)\"\\.toCharArray\\(\\)\\) \\{";
    private static final Pattern TYPES = Pattern.compile(TYPED);
    private static final Pattern CALL = Pattern.compile("room\\.(\\w+)\\((.*)\\); +// ([^:]+)(:.*)?");

    private ReadmeTest() {
    }

    static void run() {
        String text = read();
        for (Method method : WaitingRoomSimulation.class.getDeclaredMethods()) {
            if (Modifier.isPublic(method.getModifiers())) {
                Check.same("README: names " + method.getName(), text.contains('`' + method.getName() + '`'), true);
            }
        }
        Check.same("README: tells of 512 calls", text.contains("at most 512 calls"), true);
        int examples = 0;
        String[] parts = text.split("```");
        for (int i = 1; i < parts.length; i += 2) {
            if (parts[i].startsWith("java\n")) {
                examples += example(parts[i].substring(5));
            }
        }
        Check.same("README: the examples were found", examples > 30, true);
    }

    private static int example(String text) {
        Told room = Told.room();
        int answers = 0;
        for (String line : text.split("\n")) {
            Matcher types = TYPES.matcher(line);
            Matcher call = CALL.matcher(line);
            if (types.matches()) {
                room.answer("types " + types.group(1));
            } else if (call.matches()) {
                String told = call.group(1) + ' ' + call.group(2).replace(",", "");
                Check.same("README: " + line, room.answer(told.trim()), call.group(3).replace("throws ", "throws."));
                answers++;
            } else {
                boolean known = line.equals("WaitingRoomSimulation room = new WaitingRoomSimulation();")
                    || line.equals("    room.type(character);") || line.equals("}");
                Check.same("README: can be read: " + line, known, true);
            }
        }
        return answers;
    }

    private static String read() {
        try {
            return Files.readString(Path.of("README.md"), StandardCharsets.US_ASCII);
        } catch (IOException e) {
            return "README.md cannot be read as ASCII";
        }
    }
}
