import java.util.NoSuchElementException;

/** Promises 21 to 30: the queue, the windows and the order in the queue. */
final class QueueTest {
    private static final int[] NO_WINDOWS = {-1, 3, Integer.MIN_VALUE, Integer.MAX_VALUE};

    private QueueTest() {
    }

    static void run() {
        queue();
        windows();
        noSuchWindow();
        calledAhead();
        inversions();
    }

    private static void queue() {
        WaitingRoomSimulation room = Rooms.crowd(4);
        Check.same("22 length", room.queueLength(), 4);
        room.swap(0, 2);
        int[] due = {2, 1, 0, 3};
        for (int i = 0; i < 4; i++) {
            Check.same("21 position " + i, room.customerAtPosition(i), due[i]);
        }
        int[] refused = {-1, 4, Integer.MIN_VALUE, Integer.MAX_VALUE};
        for (int position : refused) {
            Check.refuses("21 position " + position, IndexOutOfBoundsException.class,
                    () -> room.customerAtPosition(position));
        }
        room.callNext();
        room.openWindow(0, 9, 9);
        room.advance(1);
        Check.same("22 without those at windows", room.queueLength(), 3);
        Check.refuses("21 the queue is shorter than the hall", IndexOutOfBoundsException.class,
                () -> room.customerAtPosition(3));
        Check.same("22 nobody", new WaitingRoomSimulation().queueLength(), 0);
    }

    private static void windows() {
        WaitingRoomSimulation room = Rooms.crowd(2);
        room.openWindow(1, 5, 3);
        Check.same("23 open", room.openingTimeLeft(1), 5);
        Check.same("23 closed", room.openingTimeLeft(0), 0);
        Check.same("24 pace", room.pace(1), 3);
        Check.refuses("24 closed", IllegalStateException.class, () -> room.pace(0));
        Check.refuses("25 empty", NoSuchElementException.class, () -> room.customerAtWindow(1));
        Check.refuses("25 closed", NoSuchElementException.class, () -> room.customerAtWindow(0));
        Check.refuses("26 empty", NoSuchElementException.class, () -> room.serviceTimeLeft(1));
        Check.refuses("26 closed", NoSuchElementException.class, () -> room.serviceTimeLeft(0));
        room.swap(0, 1);
        Rooms.call(room, 2);
        room.advance(1);
        Check.same("25 customer", room.customerAtWindow(1), 1);
        Check.same("26 service time", room.serviceTimeLeft(1), 3);
        room.advance(1);
        Check.same("26 service time later", room.serviceTimeLeft(1), 2);
        Check.same("23 opening time later", room.openingTimeLeft(1), 3);
        room.remove(1);
        Check.refuses("25 removed", NoSuchElementException.class, () -> room.customerAtWindow(1));
        Check.refuses("26 removed", NoSuchElementException.class, () -> room.serviceTimeLeft(1));
        room.advance(3);
        Check.refuses("24 closed by time", IllegalStateException.class, () -> room.pace(1));
        Check.refuses("25 closed by time", NoSuchElementException.class, () -> room.customerAtWindow(1));
        Check.refuses("26 closed by time", NoSuchElementException.class, () -> room.serviceTimeLeft(1));
    }

    private static void noSuchWindow() {
        WaitingRoomSimulation room = Rooms.crowd(5);
        Class<IndexOutOfBoundsException> due = IndexOutOfBoundsException.class;
        for (int window : NO_WINDOWS) {
            Check.refuses("23 window " + window, due, () -> room.openingTimeLeft(window));
            Check.refuses("24 window " + window, due, () -> room.pace(window));
            Check.refuses("25 window " + window, due, () -> room.customerAtWindow(window));
            Check.refuses("26 window " + window, due, () -> room.serviceTimeLeft(window));
        }
    }

    private static void calledAhead() {
        WaitingRoomSimulation room = Rooms.call(Rooms.crowd(6), 3);
        room.swap(1, 4);
        room.openWindow(0, 9, 9);
        room.advance(1);
        Check.same("27 the queue", Rooms.queue(room), "5 3! 4 2! 6");
        int[] due = {0, 1, 0, 1, 0, 2};
        for (int i = 0; i < 6; i++) {
            Check.same("27 customer " + i, room.calledAhead(i), due[i]);
            Check.same("28 customer " + i, room.calledAheadByPositions(i), due[i]);
        }
        int[] refused = {-1, 6, Integer.MIN_VALUE, Integer.MAX_VALUE};
        for (int customer : refused) {
            Check.refuses("27 customer " + customer, IndexOutOfBoundsException.class, () -> room.calledAhead(customer));
            Check.refuses("28 customer " + customer, IndexOutOfBoundsException.class,
                    () -> room.calledAheadByPositions(customer));
        }
    }

    private static void inversions() {
        WaitingRoomSimulation room = new WaitingRoomSimulation();
        sameInversions("empty", room, 0);
        room.addCustomer(30);
        sameInversions("one", room, 0);
        for (int i = 0; i < 11; i++) {
            room.addCustomer(30);
        }
        sameInversions("in order", room, 0);
        room.swap(3, 4);
        sameInversions("neighbours", room, 1);
        room.swap(3, 4);
        sameInversions("back again", room, 0);
        room.swap(0, 2);
        room.swap(1, 3);
        sameInversions("3 4 1 2", room, 4);
        room.swap(0, 3);
        sameInversions("3 2 1 4 and so on", room, 3);
        room.swap(0, 3);
        room.swap(1, 3);
        room.swap(0, 2);
        sameInversions("in order again", room, 0);
        for (int i = 0; i < 6; i++) {
            room.swap(i, 11 - i);
        }
        sameInversions("turned round", room, 66);
        Check.same("30 the queue is as it was", Rooms.queue(room), "12 11 10 9 8 7 6 5 4 3 2 1");
        room.callNext();
        room.openWindow(0, 9, 9);
        room.advance(1);
        sameInversions("those at windows do not count", room, 55);
    }

    private static void sameInversions(String what, WaitingRoomSimulation room, int due) {
        Check.same("29 " + what, room.inversions(), due);
        Check.same("30 " + what, room.inversionsByBubbleSort(), due);
    }
}
