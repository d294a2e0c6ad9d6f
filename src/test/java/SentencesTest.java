import java.util.ArrayList;
import java.util.Arrays;
import java.util.List;

/** The sentences that speak of several promises at once, held against each call that they touch. */
final class SentencesTest {
    private static final String[] ABOUT_A_CUSTOMER = {"ticket", "patience", "sighs", "ache", "waitingTime", "isCalled",
        "isSitting", "windowOfCustomer"};
    private static final String[] LISTS = {"customerAtPosition", "customerAtWindow", "customerBySighs",
        "customerByWaitingTime"};
    /** Each kind of change, in a row that is never refused. */
    private static final String[] CHANGES = {"addCustomer 9", "addCustomer 20", "addCustomer 3", "callNext", "callNext",
        "openWindow 1 9 3", "sit 1", "advance 1", "standUp 1", "swap 1 2", "closeWindow 1", "advance 4",
        "script add 9;sit 0;stand 0", "remove 0", "openWindow 0 3 1", "advance 20", "addCustomer 30",
        "script open 2 9 9;close 2", "callNext", "advance 3"};
    private static final String[][] SCRIPTS = {
        {"addCustomer 9", "callNext", "openWindow 1 9 2", "advance 2", "sit 0", "remove 1"},
        {"advance 1", "remove 0", "remove 0", "swap 1 0", "advance 1"},
        {"advance 20", "addCustomer 1", "addCustomer 30", "callNext", "openWindow 0 99 9", "advance 3"},
        {"closeWindow 2", "closeWindow 0", "closeWindow 1", "openWindow 0 5 5"},
        {"sit 0", "sit 1", "sit 2", "sit 3", "advance 6", "sit 4"},
        {"swap 0 1", "swap 1 2", "swap 2 3", "standUp 3", "sit 3", "standUp 3"},
        {"remove 11", "addCustomer 1", "sit 11", "advance 3", "callNext"},
        {"advance 7", "remove 1", "closeWindow 0", "swap 0 2", "advance 0"}};
    private static final String[] NO_CHANGES = {"sighsWithin 60", "minutesUntilWindow 0", "patienceAfter 0 9",
        "advance 0", "addCustomer 0", "remove 12", "script add 9;", "script add 9;add 0", "renderQueue",
        "renderWindows", "isConsistent", "inversionsByBubbleSort", "type 256", "save"};

    private SentencesTest() {
    }

    static void run() {
        fourSteps();
        toTheFront();
        staysCalled();
        for (List<String> scene : ScenesTest.scenes()) {
            leaving(scene);
            indicesAgree(scene);
            predictions(scene);
            if (Look.BUFFER_LENGTH.at(Runs.tell(scene)).equals("1")) {
                for (String[] calls : SCRIPTS) {
                    script(scene, calls);
                }
            }
        }
        changes();
        snapshots();
    }

    private static void fourSteps() {
        Runs.check("""
            # minute: from a window that closes (1) through a sigh (2) to another window (3)
            addCustomer 2
            callNext
            openWindow 0 2 9
            advance 1
            openWindow 1 9 4
            advance 1 -> 0
            customer 0 -> ticket 1 patience 0 sighs 1 ache 0 waited 2 window 1 called
            windows -> 0:x 1:1/4 2:x
            openingTimeLeft 1 -> 8
            minute -> 2
            # minute: from a window that closes (1) out of the hall (2), so that the next one comes to a window (3)
            addCustomer 1
            addCustomer 30
            2 * callNext
            advance 1
            openWindow 0 2 9
            advance 1
            windows -> 0:1/9 1:x 2:x
            openWindow 1 9 5
            advance 1 -> 0
            windows -> 0:x 1:2/5 2:x
            customer 0 -> ticket 2 patience 27 sighs 0 ache 0 waited 3 window 1 called
            walkedOutTotal -> 1
            # minute: who is served (1) waits no more (2)
            addCustomer 1
            callNext
            openWindow 0 9 1
            advance 1 -> 0
            advance 1 -> 1
            servedWaitingTime 0 -> 1
            sighTotal -> 1
            # minute: who stands up with ache 6 (2) goes to a window (3)
            addCustomer 5
            sit 0
            advance 5
            callNext
            openWindow 0 9 9
            advance 1
            customer 0 -> ticket 1 patience 5 sighs 0 ache 6 waited 6 window 0 called
            # minute: served at window 0 and window 2 closes (1), both wait (2), window 0 is filled from the front (3)
            3 * addCustomer 30
            3 * callNext
            openWindow 0 9 1
            openWindow 2 2 9
            advance 1
            windows -> 0:1/1 1:x 2:2/9
            advance 1 -> 1
            windows -> 0:2/1 1:x 2:x
            queue -> 3!
            customer 0 -> ticket 2 patience 28 sighs 0 ache 0 waited 2 window 0 called
            customer 1 -> ticket 3 patience 28 sighs 0 ache 0 waited 2 position 0 called
            # minute: window 0 closes and then window 2 serves (1), in index order
            3 * addCustomer 30
            3 * callNext
            openWindow 0 2 9
            openWindow 2 9 1
            advance 1
            windows -> 0:1/9 1:x 2:2/1
            advance 1 -> 1
            windows -> 0:x 1:x 2:1/1
            queue -> 3!
            # minute: a window that serves in its last minute closes (1) and is not filled (3)
            2 * addCustomer 30
            2 * callNext
            openWindow 0 2 1
            advance 1
            advance 1 -> 1
            windows -> 0:x 1:x 2:x
            queue -> 2!
            # minute: the third sigh (2) comes before a free window (3)
            addCustomer 1
            advance 2
            callNext
            openWindow 0 9 9
            advance 1 -> 0
            windows -> 0:- 1:x 2:x
            walkedOutTotal -> 1
            """);
    }

    private static void toTheFront() {
        Runs.check("""
            # to the front: in a script
            4 * addCustomer 30
            2 * callNext
            openWindow 0 9 9
            openWindow 1 9 9
            advance 1
            script close 0;close 1 -> 2
            queue -> 2! 1! 3 4
            # to the front: by time in a script, and back by undo
            4 * addCustomer 30
            2 * callNext
            openWindow 0 3 9
            openWindow 1 3 9
            script advance 2;advance -> 2
            queue -> 2! 1! 3 4
            undo
            queue -> 1! 2! 3 4
            windows -> 0:- 1:- 2:x
            # to the front: in a prediction, before one who is called and has waited there
            2 * addCustomer 30
            2 * callNext
            openWindow 0 2 9
            advance 1
            openWindow 1 9 3
            minutesUntilWindow 0 -> 0
            minutesUntilWindow 1 -> 4
            patienceAfter 0 1 -> 28
            patienceAfter 0 3 -> 28
            patienceAfter 0 4 -> throws.NoSuchElementException
            patienceAfter 1 4 -> 25
            advance 1
            windows -> 0:x 1:1/3 2:x
            queue -> 2!
            # to the front: before one who sits there, who keeps sitting
            3 * addCustomer 30
            callNext
            openWindow 2 2 9
            sit 1
            advance 2
            queue -> 1! 2_ 3
            """);
    }

    private static void staysCalled() {
        Runs.check("""
            # stays called: at the window, behind it, and after undo and restore
            3 * addCustomer 30
            callNext -> 1
            save -> 3
            openWindow 0 2 9
            advance 1
            isCalled 0 -> true
            advance 1
            isCalled 0 -> true
            2 * undo -> 5
            isCalled 0 -> true
            undo -> 4
            isCalled 0 -> true
            undo -> 3
            isCalled 0 -> false
            restore -> 3
            isCalled 0 -> true
            isCalled 1 -> false
            # stays called: through scripts, also one that is refused
            3 * addCustomer 30
            script call;call -> 2
            script sit 0;swap 0 2;advance 9;stand 1 -> throws.IllegalStateException
            queue -> 1! 2! 3
            script sit 0;swap 0 2;advance 9;stand 0 -> throws.IllegalStateException
            script sit 0;swap 0 2;advance 5;stand 0 -> 4
            queue -> 3 2! 1!
            callNext -> 3
            # stays called: the next ticket is never one that was called before
            12 * addCustomer 30
            callNext -> 1
            remove 11
            addCustomer 30
            callNext -> 2
            openWindow 1 3 1
            advance 3
            callNext -> 3
            10 * remove 0 / addCustomer 30
            callNext -> 14
            """);
    }

    /** Whoever is removed: later indices decrease by 1, and all else that can be asked about the others stays. */
    private static void leaving(List<String> scene) {
        int customers = number(Runs.tell(scene), "customerCount");
        for (int gone = 0; gone < customers; gone++) {
            String what = "leaving: " + scene + " remove " + gone;
            Told before = Runs.tell(scene);
            Told after = Runs.after(scene, "remove " + gone);
            for (int i = 0; i < customers; i++) {
                int now = i > gone ? i - 1 : i;
                for (String name : i == gone ? new String[0] : ABOUT_A_CUSTOMER) {
                    Check.same(what + ", " + name + " " + now, after.answer(name + " " + now),
                        before.answer(name + " " + i));
                }
            }
            for (String name : LISTS) {
                List<Integer> due = new ArrayList<>();
                for (int i : customers(before, name)) {
                    if (i != gone) {
                        due.add(i > gone ? i - 1 : i);
                    }
                }
                Check.same(what + ", " + name, customers(after, name).toString(), due.toString());
            }
        }
    }

    /** After each change, undone or restored too, all calls mean the same customers by the indices. */
    private static void indicesAgree(List<String> scene) {
        for (String change : new String[] {"advance 1", "advance 2", "advance 3", "advance 9", "advance 20", "remove 0",
            "remove 2", "addCustomer 30", "closeWindow 0", "closeWindow 1", "closeWindow 2", "swap 0 1", "undo",
            "restore"}) {
            String what = "indices: " + scene + " " + change;
            Told room = Runs.after(scene, change);
            agree(what, room);
            room = Runs.tell(scene);
            room.answer("save");
            room.answer(change);
            room.answer("undo");
            agree(what + ", undone", room);
            room = Runs.tell(scene);
            room.answer("save");
            room.answer(change);
            room.answer("restore");
            agree(what + ", restored", room);
        }
    }

    private static void agree(String what, Told room) {
        int customers = number(room, "customerCount");
        StringBuilder queue = new StringBuilder();
        for (int i = 1; i < customers; i++) {
            Check.same(what + ", in order of arrival " + i,
                number(room, "ticket " + (i - 1)) < number(room, "ticket " + i), true);
        }
        for (int i : customers(room, "customerAtPosition")) {
            queue.append(queue.length() == 0 ? "" : " ").append(room.answer("ticket " + i))
                .append(room.answer("isCalled " + i).equals("true") ? "!" : "")
                .append(room.answer("isSitting " + i).equals("true") ? "_" : "");
        }
        Check.same(what + ", queue", room.answer("queue"), queue.toString());
        List<Integer> places = customers(room, "customerAtPosition");
        places.addAll(customers(room, "customerAtWindow"));
        places.sort(null);
        List<Integer> all = new ArrayList<>();
        for (int i = 0; i < customers; i++) {
            all.add(i);
        }
        Check.same(what + ", each is at one place", places.toString(), all.toString());
        List<Integer> ranks = customers(room, "customerBySighs");
        ranks.sort(null);
        Check.same(what + ", each has one rank by sighs", ranks.toString(), all.toString());
        ranks = customers(room, "customerByWaitingTime");
        ranks.sort(null);
        Check.same(what + ", each has one rank by waiting time", ranks.toString(), all.toString());
    }

    /** What is predicted comes true, if nothing but the passing of minutes happens. */
    private static void predictions(List<String> scene) {
        int customers = number(Runs.tell(scene), "customerCount");
        String[][] patience = new String[customers][61];
        String[] first = new String[customers];
        Arrays.fill(first, "throws.NoSuchElementException");
        int sighsNow = number(Runs.tell(scene), "sighTotal");
        List<String> tickets = tickets(Runs.tell(scene));
        for (int minutes = 0; minutes <= 60; minutes++) {
            Told later = Runs.tell(scene);
            pass(later, minutes);
            List<String> left = tickets(later);
            for (int i = 0; i < customers; i++) {
                int now = left.indexOf(tickets.get(i));
                patience[i][minutes] = now < 0 ? "throws.NoSuchElementException" : later.answer("patience " + now);
                boolean atWindow = now >= 0 && !later.answer("windowOfCustomer " + now).startsWith("throws.");
                if (atWindow && first[i].startsWith("throws.")) {
                    first[i] = String.valueOf(minutes);
                }
            }
            Check.same("predictions: " + scene + " sighsWithin " + minutes,
                number(Runs.tell(scene), "sighsWithin " + minutes), number(later, "sighTotal") - sighsNow);
        }
        for (int i = 0; i < customers; i++) {
            Told room = Runs.tell(scene);
            Check.same("predictions: " + scene + " minutesUntilWindow " + i, room.answer("minutesUntilWindow " + i),
                first[i]);
            for (int minutes = 0; minutes <= 60; minutes++) {
                String call = "patienceAfter " + i + " " + minutes;
                Check.same("predictions: " + scene + " " + call, room.answer(call), patience[i][minutes]);
            }
        }
    }

    private static void pass(Told room, int minutes) {
        for (int left = minutes; left > 0; left -= 20) {
            room.answer("advance " + Math.min(left, 20));
        }
    }

    /** A script does what its calls do one by one, or nothing if one of them is refused. */
    private static void script(List<String> scene, String[] calls) {
        String script = "script " + String.join(";", calls).replace("addCustomer", "add")
            .replace("openWindow", "open").replace("closeWindow", "close").replace("callNext", "call")
            .replace("standUp", "stand");
        String what = "scripts: " + scene + " " + script;
        Told alone = Runs.tell(scene);
        int done = 0;
        while (done < calls.length && !alone.answer(calls[done]).startsWith("throws.")) {
            done++;
        }
        Told room = Runs.tell(scene);
        String answer = room.answer(script);
        if (done == calls.length) {
            Check.same(what, answer, String.valueOf(calls.length));
            Check.same(what + ", the hall", Look.HALL.at(room), Look.HALL.at(alone));
        } else {
            Check.same(what, answer, "throws.IllegalStateException");
            Check.same(what + ", the hall", Look.HALL.at(room), Look.HALL.at(Runs.tell(scene)));
            Check.same(what + ", failed", room.answer("failedCommand"), String.valueOf(done));
        }
        Check.same(what + ", the buffer", room.answer("type 32"), "1");
    }

    /** After each number of changes, and with other calls between them: each of the latest 8 is taken back. */
    private static void changes() {
        String[] halls = hallsAfterChanges();
        for (int made = 0; made <= CHANGES.length; made++) {
            for (boolean others : new boolean[] {false, true}) {
                for (int undone = 1; undone <= Math.min(made, 8) + 1; undone++) {
                    String what = "changes: " + made + " made, undone " + undone + ", others " + others;
                    Told room = made(made, others);
                    String answer = "";
                    for (int i = 0; i < undone; i++) {
                        answer = room.answer("undo");
                    }
                    boolean possible = undone <= Math.min(made, 8);
                    Check.same(what, answer, possible ? String.valueOf(Math.min(made, 8) - undone)
                        : "throws.NoSuchElementException");
                    Check.same(what + ", the hall", Look.HALL.at(room),
                        halls[possible ? made - undone : made - Math.min(made, 8)]);
                }
            }
        }
    }

    /** A snapshot after each number of changes is restored after all of them, twice, with nothing to undo. */
    private static void snapshots() {
        String[] halls = hallsAfterChanges();
        for (int saved = 0; saved <= CHANGES.length; saved++) {
            String what = "snapshot after " + saved + " changes";
            Told room = made(saved, false);
            room.answer("save");
            for (int i = saved; i < CHANGES.length; i++) {
                room.answer(CHANGES[i]);
            }
            room.answer("restore");
            Check.same(what + ", undo", room.answer("undo"), "throws.NoSuchElementException");
            room.answer("addCustomer 30");
            room.answer("advance 20");
            room.answer("undo");
            room.answer("restore");
            Check.same(what + ", undo after the second time", room.answer("undo"), "throws.NoSuchElementException");
            Check.same(what + ", the hall", Look.HALL.at(room), halls[saved]);
        }
    }

    private static String[] hallsAfterChanges() {
        String[] halls = new String[CHANGES.length + 1];
        for (int made = 0; made <= CHANGES.length; made++) {
            halls[made] = Look.HALL.at(made(made, false));
        }
        return halls;
    }

    private static Told made(int changes, boolean others) {
        Told room = Told.room();
        for (int i = 0; i < changes; i++) {
            String answer = room.answer(CHANGES[i]);
            Check.same("changes: " + CHANGES[i] + " returns", answer.startsWith("throws."), false);
            room.answer(others ? NO_CHANGES[i % NO_CHANGES.length] : "isConsistent");
        }
        return room;
    }

    /** The customers at all positions, at all windows or at all ranks, without those places that are empty. */
    private static List<Integer> customers(Told room, String name) {
        List<Integer> found = new ArrayList<>();
        for (int i = 0; i < 13; i++) {
            String answer = room.answer(name + " " + i);
            if (!answer.startsWith("throws.")) {
                found.add(Integer.parseInt(answer));
            }
        }
        return found;
    }

    private static List<String> tickets(Told room) {
        List<String> tickets = new ArrayList<>();
        int customers = number(room, "customerCount");
        for (int i = 0; i < customers; i++) {
            tickets.add(room.answer("ticket " + i));
        }
        return tickets;
    }

    private static int number(Told room, String call) {
        return Integer.parseInt(room.answer(call));
    }
}
