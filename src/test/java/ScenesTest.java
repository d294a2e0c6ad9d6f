import java.util.ArrayList;
import java.util.EnumSet;
import java.util.List;
import java.util.Map;
import java.util.Set;

/**
 * Every call with the values at both sides of each bound, in halls that are empty, full and in between. Each answer is
 * compared with the one of the reference; refused calls and questions change nothing; undo and restore take each
 * change back.
 */
final class ScenesTest {
    private static final String[] SCENES = {
        "",
        """
        addCustomer 1
        advance 1
        """,
        """
        12 * addCustomer 30
        """,
        """
        10 * addCustomer 4
        3 * callNext
        script x
        script call;call;call;call;call;call;call;call
        openWindow 0 99 1
        openWindow 1 99 9
        openWindow 2 99 5
        """,
        """
        12 * addCustomer 30
        12 * callNext
        sit 3
        sit 4
        sit 5
        sit 11
        openWindow 0 99 9
        openWindow 1 9 5
        openWindow 2 2 9
        advance 1
        renderWindows
        """,
        """
        9 * addCustomer 30
        3 * addCustomer 2
        9 * callNext
        openWindow 0 99 1
        openWindow 1 2 1
        advance 20
        renderQueue
        """,
        """
        5 * addCustomer 9
        3 * callNext
        openWindow 0 3 2
        openWindow 2 3 9
        sit 4
        advance 2
        save
        remove 3
        """,
        """
        3 * addCustomer 3
        script add 9;ad
        script add 9;call;add 31
        save
        addCustomer 30
        swap 0 1
        renderQueue
        58 * type 97
        """,
        """
        2 * addCustomer 3
        save
        callNext
        openWindow 1 9 1
        renderWindows
        60 * type 59
        """,
        """
        6 * addCustomer 7
        save
        openWindow 1 4 2
        callNext
        restore
        types add 9;call;advance
        """,
        """
        addCustomer 30
        addCustomer 9
        addCustomer 2
        addCustomer 1
        sit 0
        sit 1
        advance 5
        standUp 1
        addCustomer 1
        addCustomer 2
        advance 1
        """,
        """
        5 * addCustomer 5
        callNext
        advance 1
        3 * undo
        """,
        """
        9 * addCustomer 5
        8 * undo
        """,
        """
        7 * addCustomer 30
        callNext
        openWindow 2 99 9
        advance 1
        sit 1
        sit 2
        sit 5
        sit 6
        swap 1 6
        type 126
        """};
    private static final String[] QUESTIONS = {"customerCount", "queueLength", "inversions", "inversionsByBubbleSort",
        "minute", "addedTotal", "servedTotal", "walkedOutTotal", "sighTotal", "meanPatience", "calmShare",
        "isConsistent", "errorPosition", "failedCommand"};
    private static final String[] ABOUT_A_NUMBER = {"ticket", "patience", "sighs", "ache", "waitingTime", "isCalled",
        "isSitting", "position", "windowOfCustomer", "customerAtPosition", "openingTimeLeft", "pace",
        "customerAtWindow", "serviceTimeLeft", "calledAhead", "calledAheadByPositions", "minutesUntilWindow",
        "sighsWithin", "servedTicket", "servedWaitingTime", "customerBySighs", "customerByWaitingTime", "outputAt"};
    private static final String[] CHANGES = {"addCustomer", "closeWindow", "sit", "standUp", "remove", "advance"};
    private static final String[] NUMBERS = {"MIN", "-1", "0", "1", "2", "3", "4", "5", "6", "7", "10", "11", "12",
        "20", "21", "30", "31", "60", "61", "MAX"};
    private static final String[] CUSTOMERS = {"MIN", "-1", "0", "1", "2", "3", "5", "6", "11", "12", "MAX"};
    private static final String[] SCRIPTS = {"script", "script ;", "script add 1", "script add 30;", "script add 31",
        "script add 0;x", "script call", "script call;callx", "script open 0 1 1", "script open 2 99 9",
        "script open 3 1 1", "script close 1", "script swap 0 1", "script swap 1 0;swap 0 1", "script sit 0",
        "script sit 11;stand 11", "script stand 3", "script remove 0;remove 0", "script remove 12", "script advance",
        "script advance 20", "script advance 21", "script advance ", "script open 1 5 5;advance;close 1"};

    private final String what;
    private final List<String> scene;
    private final Map<Look, String> looks;

    private ScenesTest(String what, List<String> scene) {
        this.what = what;
        this.scene = scene;
        looks = Runs.looks(scene);
    }

    static void run() {
        List<List<String>> scenes = scenes();
        for (int i = 0; i < scenes.size(); i++) {
            new ScenesTest("scene " + i + ", ", scenes.get(i)).check();
        }
    }

    /** The calls that lead to each of the halls. */
    static List<List<String>> scenes() {
        List<List<String>> scenes = new ArrayList<>();
        for (String text : SCENES) {
            List<String> scene = new ArrayList<>();
            for (String line : text.split("\n")) {
                if (!line.isEmpty()) {
                    scene.addAll(Runs.expand(line));
                }
            }
            scenes.add(scene);
        }
        return scenes;
    }

    private void check() {
        check("", EnumSet.allOf(Look.class), QUESTIONS);
        for (String number : NUMBERS) {
            check(" " + number, EnumSet.allOf(Look.class), ABOUT_A_NUMBER);
            check(" " + number, null, CHANGES);
        }
        for (String customer : CUSTOMERS) {
            for (String other : CUSTOMERS) {
                check(" " + customer + " " + other, null, "swap");
            }
            for (String minutes : new String[] {"MIN", "-1", "0", "1", "60", "61", "MAX"}) {
                check(" " + customer + " " + minutes, EnumSet.allOf(Look.class), "patienceAfter");
            }
        }
        for (String window : new String[] {"MIN", "-1", "0", "1", "2", "3", "MAX"}) {
            for (String arguments : new String[] {"0 1", "1 0", "0 0", "1 1", "99 9", "100 9", "99 10", "100 10",
                "MIN 1", "1 MIN", "MAX 1", "1 MAX"}) {
                check(" " + window + " " + arguments, null, "openWindow");
            }
        }
        for (String sign : new String[] {"0", "31", "32", "97", "126", "127", "65535"}) {
            check(" " + sign, EnumSet.complementOf(EnumSet.of(Look.BUFFER_LENGTH, Look.BUFFER_TEXT)), "type");
        }
        check("", EnumSet.complementOf(EnumSet.of(Look.OUTPUT)), "renderQueue", "renderWindows");
        check("", EnumSet.complementOf(EnumSet.of(Look.SNAPSHOT)), "save");
        check("", EnumSet.of(Look.OUTPUT, Look.SNAPSHOT, Look.BUFFER_LENGTH, Look.ERROR_POSITION, Look.FAILED_COMMAND),
            "undo", "restore");
        check("", null, "callNext");
        check("", null, "runScript");
        check("", null, SCRIPTS);
    }

    /** The looks that stay the same if the calls return normally; without looks the calls are changes. */
    private void check(String arguments, Set<Look> same, String... names) {
        for (String name : names) {
            String call = name + arguments;
            Told room = Runs.tell(scene);
            String got = room.answer(call);
            Told reference = Runs.tell(Told.reference(), scene);
            Check.same(what + call, got, reference.answer(call));
            if (got.startsWith("throws.")) {
                Runs.changesNothing(what + call, scene, looks, call, got);
            } else if (same == null) {
                Check.same(what + call + " as the reference", Look.HALL.at(room), Look.HALL.at(reference));
                takesBack(call);
            } else {
                for (Look look : same) {
                    Check.same(what + call + " leaves " + look, look.at(Runs.after(scene, call)), looks.get(look));
                }
            }
            if (call.equals("undo") || call.equals("restore")) {
                Check.same(what + call + " as the reference", Look.HALL.at(room), Look.HALL.at(reference));
            }
        }
    }

    private void takesBack(String call) {
        for (Look look : EnumSet.of(Look.OUTPUT, Look.HALL, Look.SNAPSHOT, Look.ERROR_POSITION, Look.FAILED_COMMAND)) {
            Told undone = Runs.after(scene, call);
            undone.answer("undo");
            Check.same(what + call + ", undone, " + look, look.at(undone), looks.get(look));
            Told restored = Runs.tell(scene);
            restored.answer("save");
            restored.answer(call);
            restored.answer("restore");
            if (look != Look.SNAPSHOT) {
                Check.same(what + call + ", restored, " + look, look.at(restored), looks.get(look));
            }
        }
        if (!Runs.runsScript(call)) {
            Told undone = Runs.after(scene, call);
            undone.answer("undo");
            Check.same(what + call + ", undone, the buffer", Look.BUFFER_LENGTH.at(undone),
                looks.get(Look.BUFFER_LENGTH));
        }
    }
}
