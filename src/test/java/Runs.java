import java.util.ArrayList;
import java.util.EnumMap;
import java.util.EnumSet;
import java.util.List;
import java.util.Map;
import java.util.Set;

/**
 * Runs of calls told as a text. A run begins with a line "# promise: sentence" and is made on a new object; each
 * further line is a call, and behind "->" the answer that is due. Without one the call must only return normally.
 * "3 * a / b" makes the calls a and b three times over.
 *
 * After each refused call, every answer must be what it was before.
 */
final class Runs {
    private final String title;
    private final List<String> before = new ArrayList<>();
    private Told room = Told.room();
    private final Told reference = Told.reference();

    private Runs(String title) {
        this.title = title;
    }

    static void check(String text) {
        Runs run = null;
        for (String line : text.split("\n")) {
            if (line.startsWith("# ")) {
                run = new Runs(line.substring(2));
            } else if (!line.isBlank()) {
                run.row(line);
            }
        }
    }

    private void row(String line) {
        int arrow = line.indexOf(" -> ");
        String calls = arrow < 0 ? line : line.substring(0, arrow);
        String due = arrow < 0 ? null : line.substring(arrow + 4);
        if (line.endsWith(" ->")) {
            calls = line.substring(0, line.length() - 3);
            due = "";
        }
        List<String> told = expand(calls);
        for (int i = 0; i < told.size(); i++) {
            call(told.get(i), i == told.size() - 1 ? due : null);
        }
    }

    /** All calls for which a line without an answer stands. */
    static List<String> expand(String line) {
        int star = line.indexOf(" * ");
        if (star < 0 || line.startsWith("types ") || line.startsWith("script ")) {
            return List.of(line);
        }
        List<String> calls = new ArrayList<>();
        int times = Integer.parseInt(line.substring(0, star));
        for (int i = 0; i < times; i++) {
            calls.addAll(List.of(line.substring(star + 3).split(" / ")));
        }
        return calls;
    }

    private void call(String call, String due) {
        String what = title + ": " + call;
        String got = room.answer(call);
        if (due == null) {
            Check.same(what + " returns", got.startsWith("throws."), false);
        } else {
            Check.same(what, got, due);
        }
        Check.same(what + ", as the reference answers", reference.answer(call), got);
        if (got.startsWith("throws.")) {
            changesNothing(what, before, call, got);
        }
        before.add(call);
    }

    static Told tell(List<String> calls) {
        return tell(Told.room(), calls);
    }

    static Told tell(Told told, List<String> calls) {
        for (String call : calls) {
            told.answer(call);
        }
        return told;
    }

    static Map<Look, String> looks(List<String> calls) {
        Map<Look, String> looks = new EnumMap<>(Look.class);
        for (Look look : Look.values()) {
            looks.put(look, look.at(tell(calls)));
        }
        return looks;
    }

    static void changesNothing(String what, List<String> before, String call, String answer) {
        changesNothing(what, before, looks(before), call, answer);
    }

    /** Runs the call after the calls before it, and looks; a refused script may leave what the document says. */
    static void changesNothing(String what, List<String> before, Map<Look, String> due, String call, String answer) {
        Set<Look> looks = EnumSet.allOf(Look.class);
        if (runsScript(call)) {
            looks.remove(Look.BUFFER_LENGTH);
            looks.remove(Look.BUFFER_TEXT);
            looks.remove(answer.equals("throws.IllegalArgumentException") ? Look.ERROR_POSITION : Look.FAILED_COMMAND);
            Check.same(what + " leaves an empty buffer", after(before, call).answer("type 32"), "1");
        }
        for (Look look : looks) {
            Check.same(what + " leaves " + look, look.at(after(before, call)), due.get(look));
        }
    }

    static boolean runsScript(String call) {
        return call.equals("runScript") || call.equals("script") || call.startsWith("script ");
    }

    static Told after(List<String> before, String call) {
        Told told = tell(before);
        told.answer(call);
        return told;
    }
}
