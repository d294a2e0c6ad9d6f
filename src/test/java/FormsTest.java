import java.util.ArrayList;
import java.util.List;

/**
 * The error position of every script that is one character away from a right one, told in the plainest way: all
 * commands are written down, with 0 for each digit.
 */
final class FormsTest {
    private static final String[] COMMANDS = {"add 0", "add 00", "open 0 0 0", "open 0 00 0", "close 0", "call",
        "swap 0 0", "swap 00 0", "swap 0 00", "swap 00 00", "sit 0", "sit 00", "stand 0", "stand 00", "remove 0",
        "remove 00", "advance", "advance 0", "advance 00"};
    private static final String[] SCRIPTS = {"add 5", "add 15;call", "open 1 23 4;close 1", "call;swap 12 3;call",
        "swap 1 20", "sit 9;stand 10", "stand 8;sit 11", "remove 1;remove 12", "advance;advance 3",
        "advance 12;advance", "close 0;open 2 5 6", "call;call"};
    private static final int CALLS = 512;

    private WaitingRoomSimulation room = new WaitingRoomSimulation();
    private int used;

    private FormsTest() {
    }

    static void run() {
        FormsTest test = new FormsTest();
        for (String script : variants()) {
            test.check(script);
        }
    }

    private static List<String> variants() {
        List<String> variants = new ArrayList<>(List.of(SCRIPTS));
        for (String script : SCRIPTS) {
            for (int i = 0; i <= script.length(); i++) {
                String before = script.substring(0, i);
                variants.add(before);
                for (char sign = 32; sign <= 126; sign++) {
                    variants.add(before + sign + script.substring(i));
                    if (i < script.length()) {
                        variants.add(before + sign + script.substring(i + 1));
                    }
                }
                if (i < script.length()) {
                    variants.add(before + script.substring(i + 1));
                }
            }
        }
        return variants;
    }

    private void check(String script) {
        if (used + script.length() + 4 > CALLS) {
            room = new WaitingRoomSimulation();
            used = 0;
        }
        used += script.length() + 4;
        Rooms.type(room, script);
        String got = "runs";
        try {
            room.runScript();
        } catch (IllegalArgumentException e) {
            got = "error " + room.errorPosition();
        } catch (IllegalStateException e) {
            got = "runs";
        }
        Check.same("50 and 51: '" + script + "'", got, isScript(script) ? "runs" : "error " + errorPosition(script));
        Check.same("50: '" + script + "' leaves an empty buffer", room.type(' '), 1);
        Check.refuses("50: ' '", IllegalArgumentException.class, room::runScript);
    }

    private static boolean isScript(String script) {
        for (String part : parts(script)) {
            if (!List.of(COMMANDS).contains(part)) {
                return false;
            }
        }
        return true;
    }

    private static int errorPosition(String script) {
        for (int i = 0; i < script.length(); i++) {
            if (!canContinue(script.substring(0, i + 1))) {
                return i;
            }
        }
        return script.length();
    }

    private static boolean canContinue(String start) {
        String[] parts = parts(start);
        for (int i = 0; i + 1 < parts.length; i++) {
            if (!List.of(COMMANDS).contains(parts[i])) {
                return false;
            }
        }
        for (String command : COMMANDS) {
            if (command.startsWith(parts[parts.length - 1])) {
                return true;
            }
        }
        return false;
    }

    private static String[] parts(String script) {
        return script.replaceAll("[0-9]", "0").split(";", -1);
    }
}
