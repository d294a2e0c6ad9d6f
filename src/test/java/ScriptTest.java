import java.util.NoSuchElementException;

/** Promises 49 to 52: the command language. */
final class ScriptTest {
    private ScriptTest() {
    }

    static void run() {
        type();
        commands();
        numbers();
        errorPositions();
        failedCommands();
        allOrNothing();
        afterwards();
        longScripts();
    }

    private static void type() {
        WaitingRoomSimulation room = new WaitingRoomSimulation();
        char[] refused = {0, 10, 31, 127, 128, 255, 256, 65535};
        for (char character : refused) {
            Check.refuses("49 character " + (int) character, IllegalArgumentException.class,
                    () -> room.type(character));
        }
        Check.same("49 the lowest", room.type(' '), 1);
        Check.same("49 the highest", room.type('~'), 2);
        for (int i = 2; i < 60; i++) {
            Check.same("49 length", room.type('x'), i + 1);
        }
        Check.refuses("49 full", IllegalStateException.class, () -> room.type('x'));
        Check.refuses("49 the character comes first", IllegalArgumentException.class, () -> room.type((char) 31));
        Check.refuses("49 run", IllegalArgumentException.class, room::runScript);
        Check.same("49 empty again", room.type('x'), 1);
    }

    private static void commands() {
        WaitingRoomSimulation room = new WaitingRoomSimulation();
        Check.same("50 add", Rooms.run(room, "add 7;add 30;add 9"), 3);
        Check.same("50 call", Rooms.run(room, "call"), 1);
        Check.same("50 open", Rooms.run(room, "open 2 15 4;open 0 5 9"), 2);
        Check.same("50 swap and sit", Rooms.run(room, "swap 0 2;sit 1;sit 2"), 3);
        Check.same("50 stand and advance", Rooms.run(room, "stand 2;advance"), 2);
        Check.same("50 close and remove", Rooms.run(room, "close 2;remove 2"), 2);
        Check.same("50 the state", Rooms.state(room),
                "2_ | 0:1/9 1:x 2:x | 1:4,0,0,1 2:30,0,1,1 | 4/9 0 0 | | 1 3 0 0 0 true");
        Rooms.run(room, "advance 3");
        Check.same("50 advance with a number", room.minute(), 4);
        Rooms.run(room, "advance 20;advance 1");
        Check.same("50 advance with two digits", room.minute(), 25);
        WaitingRoomSimulation mixed = new WaitingRoomSimulation();
        Check.same("50 in order", Rooms.run(mixed, "add 3;call;open 1 99 9;advance;add 4;remove 0;sit 0"), 7);
        Check.same("50 mixed", Rooms.state(mixed), "2_ | 0:x 1:- 2:x | 2:4,0,0,0 | 0 98/9 0 | | 1 2 0 0 0 true");
    }

    private static void numbers() {
        WaitingRoomSimulation room = new WaitingRoomSimulation();
        Check.same("50 a leading zero", Rooms.run(room, "add 07;add 01"), 2);
        Check.same("50 seven", room.patience(0), 7);
        Check.same("50 leading zeros", Rooms.run(room, "open 0 01 1;swap 00 01;sit 00;advance 02"), 4);
        Check.same("50 two digits", Rooms.run(room, "open 1 99 9;add 30"), 2);
        Check.same("50 opened", room.openingTimeLeft(1), 99);
        Check.same("50 thirty", room.patience(2), 30);
        for (int i = room.customerCount(); i < 12; i++) {
            room.addCustomer(30);
        }
        Check.same("50 a two-digit index", Rooms.run(room, "swap 10 11;sit 11;remove 10"), 3);
        Check.same("50 the last customer", room.isSitting(10), true);
    }

    private static void errorPositions() {
        String[] wrong = {"", "x", " ", ";", "A", "5", "a", "ad", "adx", "add", "addx", "add ", "add  ", "add x",
            "add 1 ", "add 123", "add 12;", "add 12;;", "add 12; add 3", "add 1;x", "add -1", "add +1", "adv", "advanc",
            "advance ", "advance x", "advance  1", "advance 123", "advancex", "advance;", "advance 1;", "advanced",
            "o", "open", "open ", "open x", "open 1", "open 12", "open 1 ", "open 1  ", "open 1 2", "open 1 234",
            "open 1 23", "open 1 23 ", "open 1 23 x", "open 1 2 3 ", "open 1 2 34", "open 1 2 3x", "c", "cl", "ca",
            "cx", "clo", "close", "close ", "close x", "close 12", "close 1 ", "cal", "calx", "call ", "call;", "call1",
            "callcall", "s", "sw", "si", "st", "sx", "swap", "swap 1", "swap 12", "swap 123", "swap 1 ", "swap 1;",
            "swap 1 x", "swap 1 234", "swap 1 2 3", "sit", "sit ", "sit 123", "sitt", "site", "stan", "stand", "stand ",
            "stand x", "standup", "r", "remov", "remove", "remove ", "remove 1;r", "remove 1;y", "call;call;cal;call",
            "Call", "call,call", "call;call;", "add %", "add #", "open % # %", "advance #"};
        int[] due = {0, 0, 0, 0, 0, 0, 1, 2, 2, 3, 3, 4, 4, 4,
            5, 6, 7, 7, 7, 6, 4, 4, 3, 6,
            8, 8, 8, 10, 7, 8, 10, 7,
            1, 4, 5, 5, 6, 6, 7, 7, 8, 9,
            9, 10, 10, 10, 10, 10, 1, 2, 2,
            1, 3, 5, 6, 6, 7, 7, 3, 3, 4, 5, 4,
            4, 1, 2, 2, 2, 1, 4, 6, 7, 7, 7, 6,
            7, 9, 8, 3, 4, 6, 3, 3, 4, 5, 6,
            6, 5, 1, 5, 6, 7, 10, 9, 13,
            0, 4, 10, 4, 4, 5, 8};
        Check.same("51 as many positions as scripts", due.length, wrong.length);
        for (int i = 0; i < wrong.length; i++) {
            String script = wrong[i];
            WaitingRoomSimulation room = Rooms.crowd(5);
            Rooms.type(room, script);
            Check.refuses("50 form of '" + script + "'", IllegalArgumentException.class, room::runScript);
            Check.same("51 position in '" + script + "'", room.errorPosition(), due[i]);
            Check.same("50 the buffer is empty after '" + script + "'", room.type('a'), 1);
            Check.same("50 '" + script + "' was no change", room.undo(), 4);
        }
    }

    private static void failedCommands() {
        String[] failing = {"add 0", "add 31", "call;add 99", "open 3 1 1", "open 0 0 1", "open 0 1 0",
            "open 1 1 1;open 1 1 1", "close 9", "close 0", "call;call;call;call", "swap 0 0", "swap 0 3",
            "call;open 0 9 9;advance;swap 0 1", "add 1;add 9;swap 3 4", "sit 3", "sit 0;sit 0",
            "add 9;add 9;sit 0;sit 1;sit 2;sit 3;sit 4", "stand 0", "stand 3", "remove 3", "remove 0;remove 2",
            "advance 0", "advance 21", "advance;advance 99"};
        int[] due = {0, 0, 1, 0, 0, 0,
            1, 0, 0, 3, 0, 0,
            3, 2, 0, 1,
            6, 0, 0, 0, 1,
            0, 0, 1};
        for (int i = 0; i < failing.length; i++) {
            String script = failing[i];
            WaitingRoomSimulation room = Rooms.crowd(3);
            Check.refuses("52 nothing failed yet", NoSuchElementException.class, room::failedCommand);
            Rooms.type(room, script);
            Check.refuses("50 failing '" + script + "'", IllegalStateException.class, room::runScript);
            Check.same("52 command in '" + script + "'", room.failedCommand(), due[i]);
            Check.same("50 the buffer is empty after '" + script + "'", room.type('a'), 1);
            Check.refuses("51 the form was right", NoSuchElementException.class, room::errorPosition);
        }
    }

    private static void allOrNothing() {
        WaitingRoomSimulation room = Rooms.crowd(3);
        Rooms.type(room, "add 5;call;open 0 9 9;advance 3;remove 1;add 0");
        Check.refuses("50 nothing takes effect", IllegalStateException.class, room::runScript);
        Check.same("52 the last one", room.failedCommand(), 5);
        Check.same("50 still three changes to undo", room.undo(), 2);
        Rooms.type(room, "add 5;add 0;");
        Check.refuses("50 the form comes first", IllegalArgumentException.class, room::runScript);
        Check.same("51 its position", room.errorPosition(), 12);
        Check.same("52 stays as it was", room.failedCommand(), 5);
        Rooms.run(room, "add 5;add 6");
        Check.same("50 a script is one change", room.undo(), 2);
        Check.same("50 undone as a whole", Rooms.queue(room), "1 2");
    }

    private static void afterwards() {
        WaitingRoomSimulation room = new WaitingRoomSimulation();
        Check.refuses("51 no script yet", NoSuchElementException.class, room::errorPosition);
        Check.refuses("52 no script yet", NoSuchElementException.class, room::failedCommand);
        Rooms.run(room, "add 5");
        Check.refuses("51 after a good script", NoSuchElementException.class, room::errorPosition);
        Rooms.type(room, "add 5x");
        Check.refuses("50 form", IllegalArgumentException.class, room::runScript);
        Rooms.type(room, "call;call");
        Check.refuses("50 fails", IllegalStateException.class, room::runScript);
        Rooms.run(room, "call");
        Check.same("51 of the latest such script", room.errorPosition(), 5);
        Check.same("52 of the latest such script", room.failedCommand(), 1);
        room.undo();
        room.save();
        room.restore();
        Check.same("51 undo and restore leave it", room.errorPosition(), 5);
        Check.same("52 undo and restore leave it", room.failedCommand(), 1);
        Rooms.type(room, "cal");
        room.addCustomer(9);
        room.undo();
        room.restore();
        Check.same("49 undo and restore leave the buffer", room.type('l'), 4);
        Check.same("50 and it runs", room.runScript(), 1);
        Rooms.type(room, "zz");
        Check.refuses("50 form again", IllegalArgumentException.class, room::runScript);
        Check.same("51 the latest", room.errorPosition(), 0);
        Rooms.type(room, "close 0");
        Check.refuses("50 fails again", IllegalStateException.class, room::runScript);
        Check.same("52 the latest", room.failedCommand(), 0);
    }

    private static void longScripts() {
        WaitingRoomSimulation room = Rooms.crowd(12);
        Check.same("50 twelve commands", Rooms.run(room, "call;call;call;call;call;call;call;call;call;call;call;call"),
                12);
        Check.refuses("50 all are called", NoSuchElementException.class, room::callNext);
        WaitingRoomSimulation full = Rooms.crowd(12);
        Rooms.type(full, "call;call;call;call;call;call;call;call;call;call;call;call;");
        Check.refuses("50 the buffer ends too early", IllegalArgumentException.class, full::runScript);
        Check.same("51 the length", full.errorPosition(), 60);
        Check.same("50 sixty characters",
                Rooms.run(full, "advance 10;advance;advance;advance;advance;advance;advance 1"), 7);
    }
}
