import java.util.NoSuchElementException;

/** Promises 31 to 33: the predictions. */
final class PredictionsTest {
    private PredictionsTest() {
    }

    static void run() {
        minutesUntilWindow();
        longQueue();
        patienceAfter();
        sighsWithin();
        noChange();
    }

    private static void minutesUntilWindow() {
        WaitingRoomSimulation room = Rooms.call(Rooms.with(30, 30, 30, 4, 30), 4);
        room.openWindow(0, 99, 3);
        Check.same("31 the first", room.minutesUntilWindow(0), 1);
        Check.same("31 the second", room.minutesUntilWindow(1), 4);
        Check.same("31 the third", room.minutesUntilWindow(2), 7);
        Check.refuses("31 walks out before", NoSuchElementException.class, () -> room.minutesUntilWindow(3));
        Check.refuses("31 is not called", NoSuchElementException.class, () -> room.minutesUntilWindow(4));
        Check.refuses("31 customer -1", IndexOutOfBoundsException.class, () -> room.minutesUntilWindow(-1));
        Check.refuses("31 customer 5", IndexOutOfBoundsException.class, () -> room.minutesUntilWindow(5));
        room.advance(1);
        Check.same("31 at a window now", room.minutesUntilWindow(0), 0);
        Check.same("31 one minute later", room.minutesUntilWindow(1), 3);
        WaitingRoomSimulation brief = Rooms.call(Rooms.crowd(1), 1);
        brief.openWindow(0, 1, 1);
        Check.refuses("31 the window closes", NoSuchElementException.class, () -> brief.minutesUntilWindow(0));
        WaitingRoomSimulation quick = Rooms.call(Rooms.crowd(1), 1);
        quick.openWindow(0, 9, 1);
        Check.same("31 pace 1", quick.minutesUntilWindow(0), 1);
    }

    private static void longQueue() {
        WaitingRoomSimulation room = Rooms.call(Rooms.crowd(9), 9);
        room.openWindow(0, 99, 9);
        room.openWindow(1, 2, 1);
        Check.same("31 a second window helps for a while", room.minutesUntilWindow(1), 1);
        Check.same("31 the third", room.minutesUntilWindow(2), 10);
        Check.same("31 the fifth", room.minutesUntilWindow(4), 28);
        Check.refuses("31 walks out after 32 minutes", NoSuchElementException.class, () -> room.minutesUntilWindow(5));
        room.sit(5);
        Check.same("31 who sits for a while lasts longer", room.minutesUntilWindow(5), 37);
    }

    private static void patienceAfter() {
        WaitingRoomSimulation room = Rooms.with(10, 4, 20);
        room.sit(2);
        Check.same("32 now", room.patienceAfter(0, 0), 10);
        Check.same("32 later", room.patienceAfter(0, 3), 7);
        Check.same("32 not below 0", room.patienceAfter(1, 5), 0);
        Check.refuses("32 has walked out", NoSuchElementException.class, () -> room.patienceAfter(1, 6));
        Check.refuses("32 the furthest", NoSuchElementException.class, () -> room.patienceAfter(1, 60));
        Check.same("32 sits for six minutes", room.patienceAfter(2, 8), 18);
        Check.same("32 the index moves, the customer stays", room.patienceAfter(2, 7), 19);
        Check.refuses("32 customer -1", IndexOutOfBoundsException.class, () -> room.patienceAfter(-1, 0));
        Check.refuses("32 customer 3", IndexOutOfBoundsException.class, () -> room.patienceAfter(3, 0));
        Check.refuses("32 the customer comes first", IndexOutOfBoundsException.class, () -> room.patienceAfter(3, -1));
        Check.refuses("32 minutes -1", IllegalArgumentException.class, () -> room.patienceAfter(0, -1));
        Check.refuses("32 minutes 61", IllegalArgumentException.class, () -> room.patienceAfter(1, 61));
        Check.refuses("32 minutes far away", IllegalArgumentException.class,
                () -> room.patienceAfter(0, Integer.MAX_VALUE));
        Rooms.call(room, 1);
        room.openWindow(0, 99, 9);
        Check.same("32 no patience is lost at the window", room.patienceAfter(0, 9), 9);
        Check.refuses("32 served by then", NoSuchElementException.class, () -> room.patienceAfter(0, 10));
        room.addCustomer(30);
        Check.refuses("32 sixty minutes are allowed", NoSuchElementException.class, () -> room.patienceAfter(3, 60));
    }

    private static void sighsWithin() {
        WaitingRoomSimulation room = Rooms.with(1, 3, 30);
        Check.same("33 now", room.sighsWithin(0), 0);
        Check.same("33 one minute", room.sighsWithin(1), 1);
        Check.same("33 three minutes", room.sighsWithin(3), 4);
        Check.same("33 with those who leave", room.sighsWithin(5), 6);
        Check.same("33 all", room.sighsWithin(60), 9);
        room.advance(2);
        Check.same("33 only those to come", room.sighsWithin(1), 2);
        Check.same("33 an empty hall", new WaitingRoomSimulation().sighsWithin(60), 0);
        int[] refused = {-1, 61, Integer.MIN_VALUE, Integer.MAX_VALUE};
        for (int minutes : refused) {
            Check.refuses("33 minutes " + minutes, IllegalArgumentException.class, () -> room.sighsWithin(minutes));
        }
    }

    private static void noChange() {
        WaitingRoomSimulation room = Rooms.call(Rooms.with(10, 4, 20, 1), 2);
        room.sit(2);
        room.openWindow(0, 50, 4);
        room.advance(1);
        String before = Rooms.state(room);
        room.minutesUntilWindow(1);
        room.patienceAfter(2, 20);
        room.sighsWithin(60);
        Check.same("31 32 33 change nothing", Rooms.state(room), before);
        room.undo();
        Check.same("31 32 33 are no changes", room.minute(), 0);
    }
}
