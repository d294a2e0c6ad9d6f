import java.util.NoSuchElementException;

/** Promises 1 to 10: a new object and the changes. */
final class ChangesTest {
    private ChangesTest() {
    }

    static void run() {
        newObject();
        addCustomer();
        openWindow();
        closeWindow();
        callNext();
        swap();
        sit();
        standUp();
        remove();
        advance();
    }

    private static void newObject() {
        WaitingRoomSimulation room = new WaitingRoomSimulation();
        Check.same("1 customers", room.customerCount(), 0);
        Check.same("1 minute", room.minute(), 0);
        Check.same("1 queue", room.queueLength(), 0);
        Check.same("1 windows", Rooms.windows(room), "0:x 1:x 2:x");
        Check.same("1 added", room.addedTotal(), 0);
        Check.same("1 served", room.servedTotal(), 0);
        Check.same("1 consistent", room.isConsistent(), true);
        new WaitingRoomSimulation().addCustomer(5);
        Check.same("1 objects are apart", room.customerCount(), 0);
    }

    private static void addCustomer() {
        WaitingRoomSimulation room = new WaitingRoomSimulation();
        int[] refused = {0, 31, -1, Integer.MIN_VALUE, Integer.MAX_VALUE};
        for (int patience : refused) {
            Check.refuses("2 patience " + patience, IllegalArgumentException.class, () -> room.addCustomer(patience));
        }
        Check.same("2 first", room.addCustomer(1), 0);
        Check.same("2 second", room.addCustomer(30), 1);
        Check.same("2 least patience", room.patience(0), 1);
        Check.same("2 most patience", room.patience(1), 30);
        Check.same("2 new customer", Rooms.state(room),
                "1 2 | 0:x 1:x 2:x | 1:1,0,0,0 2:30,0,0,0 | 0 0 0 | | 0 2 0 0 0 true");
        for (int i = 2; i < 12; i++) {
            Check.same("2 customer " + i, room.addCustomer(7), i);
        }
        Check.refuses("2 the hall is full", IllegalStateException.class, () -> room.addCustomer(7));
        Check.refuses("2 patience comes first", IllegalArgumentException.class, () -> room.addCustomer(0));
        room.remove(3);
        Check.same("2 a place is free again", room.addCustomer(9), 11);
        Check.same("2 no number is used twice", room.ticket(11), 13);
        newAfterOthersLeft();
        WaitingRoomSimulation served = Rooms.call(Rooms.crowd(12), 1);
        served.openWindow(0, 9, 9);
        served.advance(1);
        Check.refuses("2 customers at windows count", IllegalStateException.class, () -> served.addCustomer(7));
    }

    private static void newAfterOthersLeft() {
        WaitingRoomSimulation room = Rooms.with(1, 9);
        room.advance(2);
        room.sit(0);
        room.sit(1);
        room.callNext();
        room.callNext();
        room.advance(3);
        room.remove(1);
        room.remove(0);
        room.addCustomer(5);
        room.addCustomer(6);
        Check.same("2 nothing is left of those before", Rooms.state(room),
                "3 4 | 0:x 1:x 2:x | 3:5,0,0,0 4:6,0,0,0 | 0 0 0 | | 5 4 0 0 2 true");
    }

    private static void openWindow() {
        WaitingRoomSimulation room = new WaitingRoomSimulation();
        int[] windows = {-1, 3, Integer.MIN_VALUE, Integer.MAX_VALUE};
        for (int window : windows) {
            Check.refuses("3 window " + window, IndexOutOfBoundsException.class, () -> room.openWindow(window, 1, 1));
        }
        int[][] refused = {{0, 1}, {100, 1}, {1, 0}, {1, 10}, {-1, 1}, {1, -1},
            {Integer.MAX_VALUE, 1}, {1, Integer.MIN_VALUE}};
        for (int[] wrong : refused) {
            Check.refuses("3 " + wrong[0] + " minutes, pace " + wrong[1], IllegalArgumentException.class,
                    () -> room.openWindow(0, wrong[0], wrong[1]));
        }
        Check.refuses("3 the window comes first", IndexOutOfBoundsException.class, () -> room.openWindow(3, 0, 0));
        Check.same("3 one open", room.openWindow(2, 1, 9), 1);
        Check.same("3 two open", room.openWindow(0, 99, 1), 2);
        Check.same("3 three open", room.openWindow(1, 50, 5), 3);
        Check.same("3 opening times", Rooms.state(room),
                " | 0:- 1:- 2:- | | 99/1 50/5 1/9 | | 0 0 0 0 0 true");
        Check.refuses("3 open already", IllegalStateException.class, () -> room.openWindow(0, 5, 5));
        Check.refuses("3 arguments come before the state", IllegalArgumentException.class,
                () -> room.openWindow(0, 100, 5));
        room.closeWindow(0);
        Check.same("3 opened again", room.openWindow(0, 3, 4), 3);
        Check.same("3 new pace", room.pace(0), 4);
        WaitingRoomSimulation waiting = Rooms.call(Rooms.crowd(1), 1);
        waiting.openWindow(0, 5, 5);
        Check.same("3 nobody moves before the minute passes", waiting.queueLength(), 1);
    }

    private static void closeWindow() {
        WaitingRoomSimulation room = Rooms.call(Rooms.crowd(4), 2);
        Check.refuses("4 window -1", IndexOutOfBoundsException.class, () -> room.closeWindow(-1));
        Check.refuses("4 window 3", IndexOutOfBoundsException.class, () -> room.closeWindow(3));
        Check.refuses("4 closed", IllegalStateException.class, () -> room.closeWindow(0));
        room.openWindow(0, 9, 9);
        room.openWindow(1, 9, 9);
        room.openWindow(2, 9, 9);
        room.advance(1);
        Check.same("4 before", Rooms.windows(room), "0:1/9 1:2/9 2:-");
        Check.same("4 an empty window", room.closeWindow(2), 2);
        Check.same("4 the first window", room.closeWindow(0), 1);
        Check.same("4 the customer is in front", Rooms.queue(room), "1! 3 4");
        Check.same("4 the last window", room.closeWindow(1), 0);
        Check.same("4 the later one is in front", Rooms.queue(room), "2! 1! 3 4");
        Check.same("4 windows", Rooms.windows(room), "0:x 1:x 2:x");
        Check.same("4 the customer stands", room.isSitting(0), false);
        Check.refuses("4 closed again", IllegalStateException.class, () -> room.closeWindow(0));
    }

    private static void callNext() {
        WaitingRoomSimulation empty = new WaitingRoomSimulation();
        Check.refuses("5 empty hall", NoSuchElementException.class, empty::callNext);
        WaitingRoomSimulation room = Rooms.crowd(3);
        room.swap(0, 2);
        Check.same("5 the lowest ticket, not the front", room.callNext(), 1);
        Check.same("5 only that one", Rooms.queue(room), "3 2 1!");
        room.remove(1);
        Check.same("5 the next in the hall", room.callNext(), 3);
        Check.refuses("5 all are called", NoSuchElementException.class, room::callNext);
        room.addCustomer(5);
        Check.same("5 a new ticket", room.callNext(), 4);
        room.openWindow(0, 9, 9);
        room.advance(1);
        Check.refuses("5 customers at windows are called", NoSuchElementException.class, room::callNext);
    }

    private static void swap() {
        WaitingRoomSimulation room = Rooms.with(5, 2, 1, 9);
        Check.refuses("6 first -1", IndexOutOfBoundsException.class, () -> room.swap(-1, 0));
        Check.refuses("6 first 4", IndexOutOfBoundsException.class, () -> room.swap(4, 0));
        Check.refuses("6 second -1", IndexOutOfBoundsException.class, () -> room.swap(0, -1));
        Check.refuses("6 second 4", IndexOutOfBoundsException.class, () -> room.swap(0, 4));
        Check.refuses("6 no such customer comes first", IndexOutOfBoundsException.class, () -> room.swap(4, 4));
        Check.refuses("6 equal", IllegalArgumentException.class, () -> room.swap(2, 2));
        Check.refuses("6 patience 1", UnsupportedOperationException.class, () -> room.swap(2, 3));
        Check.refuses("6 patience 1, turned round", UnsupportedOperationException.class, () -> room.swap(3, 2));
        room.sit(1);
        Check.same("6 distance", room.swap(0, 3), 3);
        Check.same("6 who moves back pays", room.patience(0), 3);
        Check.same("6 who moves forward does not", room.patience(3), 9);
        Check.same("6 order", Rooms.queue(room), "4 2_ 3 1");
        Check.same("6 patience 2 is enough", room.swap(2, 1), 1);
        Check.same("6 patience 0 is left", room.patience(1), 0);
        Check.same("6 who sits keeps sitting", Rooms.queue(room), "4 3 2_ 1");
        Check.same("6 no sigh", room.sighTotal(), 0);
        Check.refuses("6 patience 0", UnsupportedOperationException.class, () -> room.swap(1, 0));
        Rooms.call(room, 2);
        room.openWindow(0, 9, 9);
        room.openWindow(1, 9, 9);
        room.advance(1);
        Check.refuses("6 one at a window", IllegalStateException.class, () -> room.swap(0, 3));
        Check.refuses("6 the other at a window", IllegalStateException.class, () -> room.swap(3, 0));
        Check.refuses("6 both at windows", IllegalStateException.class, () -> room.swap(0, 1));
        Check.refuses("6 equal and at a window", IllegalArgumentException.class, () -> room.swap(0, 0));
        Check.refuses("6 impatient and at a window", IllegalStateException.class, () -> room.swap(2, 1));
    }

    private static void sit() {
        WaitingRoomSimulation room = Rooms.crowd(7);
        Check.refuses("7 customer -1", IndexOutOfBoundsException.class, () -> room.sit(-1));
        Check.refuses("7 customer 7", IndexOutOfBoundsException.class, () -> room.sit(7));
        for (int i = 0; i < 4; i++) {
            Check.same("7 chair " + i, room.sit(i), i + 1);
        }
        Check.same("7 who sits", Rooms.queue(room), "1_ 2_ 3_ 4_ 5 6 7");
        Check.refuses("7 chairs are taken", UnsupportedOperationException.class, () -> room.sit(4));
        Check.refuses("7 sits, and chairs are taken", IllegalStateException.class, () -> room.sit(0));
        room.standUp(2);
        Check.same("7 a chair is free", room.sit(6), 4);
        room.remove(6);
        Check.same("7 a chair of a customer who left", room.sit(2), 4);
        room.standUp(3);
        Rooms.call(room, 1);
        room.openWindow(0, 9, 9);
        room.advance(1);
        Check.refuses("7 at a window", IllegalStateException.class, () -> room.sit(0));
        Check.same("7 the chair of a customer who went to the window", room.sit(3), 3);
        WaitingRoomSimulation aching = Rooms.crowd(1);
        aching.sit(0);
        aching.advance(6);
        Check.same("7 stood up with ache", aching.isSitting(0), false);
        Check.same("7 the ache does not matter", aching.sit(0), 1);
        Check.same("7 the ache stays", aching.ache(0), 6);
    }

    private static void standUp() {
        WaitingRoomSimulation room = Rooms.crowd(3);
        Check.refuses("8 customer -1", IndexOutOfBoundsException.class, () -> room.standUp(-1));
        Check.refuses("8 customer 3", IndexOutOfBoundsException.class, () -> room.standUp(3));
        Check.refuses("8 stands", IllegalStateException.class, () -> room.standUp(0));
        room.sit(0);
        room.sit(2);
        room.advance(2);
        Check.same("8 one sits", room.standUp(0), 1);
        Check.same("8 who sits", Rooms.queue(room), "1 2 3_");
        Check.same("8 the ache stays", room.ache(0), 2);
        Check.same("8 nobody sits", room.standUp(2), 0);
        Rooms.call(room, 1);
        room.openWindow(0, 9, 9);
        room.advance(1);
        Check.refuses("8 at a window", IllegalStateException.class, () -> room.standUp(0));
    }

    private static void remove() {
        WaitingRoomSimulation room = Rooms.call(Rooms.crowd(5), 2);
        room.openWindow(1, 9, 9);
        room.openWindow(2, 9, 9);
        room.advance(1);
        Check.refuses("9 customer -1", IndexOutOfBoundsException.class, () -> room.remove(-1));
        Check.refuses("9 customer 5", IndexOutOfBoundsException.class, () -> room.remove(5));
        Check.same("9 in the queue", room.remove(3), 4);
        Check.same("9 queue", Rooms.queue(room), "3 5");
        Check.same("9 later customers move up", room.ticket(3), 5);
        Check.same("9 earlier customers stay", room.ticket(2), 3);
        Check.same("9 at a window", room.remove(0), 3);
        Check.same("9 the window stays open", Rooms.windows(room), "0:x 1:- 2:2/9");
        Check.same("9 the other window's customer", room.customerAtWindow(2), 0);
        Check.same("9 queue indices", room.customerAtPosition(1), 2);
        Check.same("9 not served", room.servedTotal(), 0);
        Check.same("9 not walked out", room.walkedOutTotal(), 0);
        Check.same("9 consistent", room.isConsistent(), true);
        everyWindowFollows();
        room.remove(0);
        room.remove(0);
        Check.same("9 the last one", room.remove(0), 0);
        Check.refuses("9 nobody is left", IndexOutOfBoundsException.class, () -> room.remove(0));
    }

    private static void everyWindowFollows() {
        WaitingRoomSimulation room = Rooms.call(Rooms.crowd(6), 4);
        room.swap(0, 3);
        for (int i = 0; i < 3; i++) {
            room.openWindow(i, 9, 9);
        }
        room.advance(1);
        Check.same("9 before", Rooms.windows(room), "0:4/9 1:2/9 2:3/9");
        room.remove(0);
        Check.same("9 everybody stays at a window", Rooms.windows(room), "0:4/9 1:2/9 2:3/9");
        int[] due = {2, 0, 1};
        for (int i = 0; i < 3; i++) {
            Check.same("9 customer at window " + i, room.customerAtWindow(i), due[i]);
        }
        Check.same("9 window of the last one", room.windowOfCustomer(2), 0);
    }

    private static void advance() {
        WaitingRoomSimulation room = Rooms.call(Rooms.crowd(12), 12);
        int[] refused = {0, 21, -1, Integer.MIN_VALUE, Integer.MAX_VALUE};
        for (int minutes : refused) {
            Check.refuses("10 minutes " + minutes, IllegalArgumentException.class, () -> room.advance(minutes));
        }
        Check.same("10 nothing open", room.advance(1), 0);
        room.openWindow(0, 99, 1);
        room.openWindow(1, 99, 2);
        Check.same("10 the first goes to the window", room.advance(1), 0);
        Check.same("10 served in these minutes", room.advance(3), 4);
        Check.same("10 minute", room.minute(), 5);
        Check.same("10 served so far", room.servedTotal(), 4);
        Check.same("10 the most minutes", room.advance(20), 8);
        Check.same("10 minute again", room.minute(), 25);
        Check.same("10 an empty hall", room.advance(20), 0);
    }
}
