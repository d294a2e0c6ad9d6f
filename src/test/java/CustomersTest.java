import java.util.NoSuchElementException;

/** Promises 11 to 20: what can be asked about customers. */
final class CustomersTest {
    private static final int[] NO_CUSTOMERS = {-1, 4, 12, Integer.MIN_VALUE, Integer.MAX_VALUE};

    private CustomersTest() {
    }

    static void run() {
        customerCount();
        values();
        places();
        noSuchCustomer();
        sameAfterLeaving();
    }

    /** Customer 0 is at window 2; 1 stands and has sighed; 2 sits; 3 came later. */
    private static WaitingRoomSimulation mixed() {
        WaitingRoomSimulation room = Rooms.with(9, 2, 8);
        room.callNext();
        room.sit(2);
        room.openWindow(2, 20, 9);
        room.advance(3);
        room.addCustomer(4);
        room.callNext();
        return room;
    }

    private static void customerCount() {
        WaitingRoomSimulation room = new WaitingRoomSimulation();
        Check.same("11 nobody", room.customerCount(), 0);
        Check.same("11 in the queue and at windows", mixed().customerCount(), 4);
        Check.same("11 full", Rooms.crowd(12).customerCount(), 12);
    }

    private static void values() {
        WaitingRoomSimulation room = mixed();
        int[][] due = {{1, 8, 0, 0, 1}, {2, 0, 2, 0, 3}, {3, 8, 0, 3, 3}, {4, 4, 0, 0, 0}};
        for (int i = 0; i < 4; i++) {
            Check.same("12 ticket " + i, room.ticket(i), due[i][0]);
            Check.same("13 patience " + i, room.patience(i), due[i][1]);
            Check.same("14 sighs " + i, room.sighs(i), due[i][2]);
            Check.same("15 ache " + i, room.ache(i), due[i][3]);
            Check.same("16 waiting time " + i, room.waitingTime(i), due[i][4]);
            Check.same("17 called " + i, room.isCalled(i), i < 2);
            Check.same("18 sitting " + i, room.isSitting(i), i == 2);
        }
    }

    private static void places() {
        WaitingRoomSimulation room = mixed();
        for (int i = 1; i < 4; i++) {
            int customer = i;
            Check.same("19 position " + i, room.position(i), i - 1);
            Check.refuses("20 in the queue " + i, NoSuchElementException.class, () -> room.windowOfCustomer(customer));
        }
        Check.refuses("19 at a window", NoSuchElementException.class, () -> room.position(0));
        Check.same("20 window", room.windowOfCustomer(0), 2);
        room.swap(2, 3);
        Check.same("19 position after a swap", room.position(2), 2);
        room.openWindow(0, 9, 9);
        room.openWindow(1, 9, 9);
        room.callNext();
        room.advance(1);
        Check.same("20 ticket 2 has walked out", room.ticket(1), 3);
        Check.same("20 window 0", room.windowOfCustomer(1), 0);
    }

    private static void noSuchCustomer() {
        WaitingRoomSimulation room = mixed();
        Class<IndexOutOfBoundsException> due = IndexOutOfBoundsException.class;
        for (int customer : NO_CUSTOMERS) {
            Check.refuses("12 customer " + customer, due, () -> room.ticket(customer));
            Check.refuses("13 customer " + customer, due, () -> room.patience(customer));
            Check.refuses("14 customer " + customer, due, () -> room.sighs(customer));
            Check.refuses("15 customer " + customer, due, () -> room.ache(customer));
            Check.refuses("16 customer " + customer, due, () -> room.waitingTime(customer));
            Check.refuses("17 customer " + customer, due, () -> room.isCalled(customer));
            Check.refuses("18 customer " + customer, due, () -> room.isSitting(customer));
            Check.refuses("19 customer " + customer, due, () -> room.position(customer));
            Check.refuses("20 customer " + customer, due, () -> room.windowOfCustomer(customer));
        }
    }

    private static void sameAfterLeaving() {
        WaitingRoomSimulation room = mixed();
        room.remove(1);
        room.addCustomer(7);
        Check.same("12 all values move with their customer", Rooms.state(room),
                "3_ 4 5 | 0:x 1:x 2:1/7 | 1:8,0,0,1 3:8,0,3,3 4:4,0,0,0 5:7,0,0,0 | 0 0 17/9 | | 3 5 0 0 2 true");
    }
}
