import java.util.NoSuchElementException;

/** Promises 34 to 45: statistics and the check of the state. */
final class StatisticsTest {
    private StatisticsTest() {
    }

    static void run() {
        served();
        customerBySighs();
        customerByWaitingTime();
        totals();
        meanPatience();
        calmShare();
        isConsistent();
    }

    private static void served() {
        WaitingRoomSimulation room = Rooms.call(Rooms.crowd(9), 9);
        refusesServed(room, 0);
        refusesServed(room, -1);
        room.openWindow(0, 99, 2);
        room.advance(3);
        Check.same("34 the only one", room.servedTicket(0), 1);
        Check.same("35 the only one", room.servedWaitingTime(0), 1);
        refusesServed(room, 1);
        room.advance(10);
        Check.same("34 all six", room.servedTotal(), 6);
        Check.same("34 the last one", room.servedTicket(0), 6);
        Check.same("34 the oldest one", room.servedTicket(5), 1);
        room.advance(2);
        for (int i = 0; i < 6; i++) {
            Check.same("34 recency " + i, room.servedTicket(i), 7 - i);
            Check.same("35 recency " + i, room.servedWaitingTime(i), 13 - 2 * i);
        }
        refusesServed(room, 6);
        refusesServed(room, 7);
        refusesServed(room, -1);
        refusesServed(room, Integer.MIN_VALUE);
        refusesServed(room, Integer.MAX_VALUE);
        room.remove(0);
        Check.same("34 removed is not served", room.servedTicket(0), 7);
    }

    private static void refusesServed(WaitingRoomSimulation room, int recency) {
        Check.refuses("34 recency " + recency, NoSuchElementException.class, () -> room.servedTicket(recency));
        Check.refuses("35 recency " + recency, NoSuchElementException.class, () -> room.servedWaitingTime(recency));
    }

    private static void customerBySighs() {
        WaitingRoomSimulation room = Rooms.with(9, 2, 3, 5, 1, 9, 5, 2);
        room.sit(4);
        room.advance(2);
        room.sit(1);
        room.advance(1);
        Check.same("36 the state", Rooms.state(room), "1 2_ 3 4 5_ 6 7 8 | 0:x 1:x 2:x |"
                + " 1:6,0,0,3 2:0,1,1,3 3:0,1,0,3 4:2,0,0,3 5:1,0,3,3 6:6,0,0,3 7:2,0,0,3 8:0,2,0,3"
                + " | 0 0 0 | | 3 8 0 0 4 true");
        int[] due = {7, 1, 2, 4, 3, 6, 0, 5};
        for (int i = 0; i < due.length; i++) {
            Check.same("36 rank " + i, room.customerBySighs(i), due[i]);
        }
        int[] refused = {-1, 8, Integer.MIN_VALUE, Integer.MAX_VALUE};
        for (int rank : refused) {
            Check.refuses("36 rank " + rank, NoSuchElementException.class, () -> room.customerBySighs(rank));
        }
        Rooms.call(room, 1);
        room.openWindow(0, 9, 9);
        room.advance(1);
        Check.same("36 with those at windows", room.customerBySighs(5), 0);
        WaitingRoomSimulation late = Rooms.with(3, 3);
        late.advance(2);
        late.sit(0);
        late.advance(1);
        Check.same("36 sighs come before patience and index", late.customerBySighs(0), 1);
    }

    private static void customerByWaitingTime() {
        WaitingRoomSimulation room = Rooms.crowd(4);
        room.advance(2);
        room.addCustomer(30);
        room.addCustomer(30);
        room.addCustomer(30);
        Rooms.call(room, 2);
        room.openWindow(0, 9, 1);
        room.advance(1);
        room.closeWindow(0);
        Check.same("37 the queue", Rooms.queue(room), "1! 2! 3 4 5 6 7");
        room.swap(2, 3);
        int[] due = {2, 3, 0, 1, 4, 5, 6};
        for (int i = 0; i < due.length; i++) {
            Check.same("37 rank " + i, room.customerByWaitingTime(i), due[i]);
        }
        int[] refused = {-1, 7, Integer.MIN_VALUE, Integer.MAX_VALUE};
        for (int rank : refused) {
            Check.refuses("37 rank " + rank, NoSuchElementException.class, () -> room.customerByWaitingTime(rank));
        }
        Rooms.call(room, 3);
        int[] called = {0, 1, 2, 3, 5, 6, 4};
        for (int i = 0; i < called.length; i++) {
            Check.same("37 more are called, rank " + i, room.customerByWaitingTime(i), called[i]);
        }
        room.openWindow(0, 9, 9);
        room.advance(1);
        room.advance(1);
        Check.same("37 who is at a window stops waiting", room.customerByWaitingTime(3), 0);
    }

    private static void totals() {
        WaitingRoomSimulation room = Rooms.with(1, 30, 1, 30);
        Check.same("38 no minute", room.minute(), 0);
        room.callNext();
        room.callNext();
        room.openWindow(0, 99, 2);
        room.advance(3);
        Check.same("38 minutes", room.minute(), 3);
        Check.same("39 added", room.addedTotal(), 4);
        Check.same("40 served", room.servedTotal(), 1);
        Check.same("41 walked out", room.walkedOutTotal(), 1);
        Check.same("42 sighs", room.sighTotal(), 4);
        room.remove(0);
        room.remove(0);
        Check.same("39 with those who left", room.addedTotal(), 4);
        Check.same("40 without those removed", room.servedTotal(), 1);
        Check.same("41 without those removed", room.walkedOutTotal(), 1);
        Check.same("42 with those of customers who left", room.sighTotal(), 4);
        room.advance(20);
        Check.same("38 goes on in an empty hall", room.minute(), 23);
    }

    private static void meanPatience() {
        WaitingRoomSimulation empty = new WaitingRoomSimulation();
        Check.refuses("43 empty", ArithmeticException.class, empty::meanPatience);
        Check.sameDouble("43 one", Rooms.with(7).meanPatience(), 7.0);
        Check.sameDouble("43 a fraction", Rooms.with(1, 2, 2).meanPatience(), 5.0 / 3.0);
        Check.sameDouble("43 eleven", Rooms.with(30, 30, 30, 30, 30, 30, 30, 30, 30, 30, 29).meanPatience(),
                329.0 / 11.0);
        WaitingRoomSimulation room = Rooms.call(Rooms.with(10, 5, 1), 1);
        room.openWindow(0, 9, 9);
        room.advance(2);
        Check.sameDouble("43 with those at windows", room.meanPatience(), 4.0);
        room.remove(0);
        room.remove(0);
        Check.sameDouble("43 zero", room.meanPatience(), 0.0);
        room.remove(0);
        Check.refuses("43 empty again", ArithmeticException.class, room::meanPatience);
    }

    private static void calmShare() {
        WaitingRoomSimulation room = Rooms.with(30, 1, 30, 1);
        Check.refuses("44 nobody served", ArithmeticException.class, room::calmShare);
        room.sit(3);
        Rooms.call(room, 4);
        room.openWindow(0, 99, 1);
        room.advance(2);
        Check.sameFloat("44 all calm", room.calmShare(), 1.0f);
        room.advance(1);
        Check.sameFloat("44 one of two", room.calmShare(), 0.5f);
        room.advance(1);
        Check.sameFloat("44 two of three", room.calmShare(), 2.0f / 3.0f);
        WaitingRoomSimulation sad = Rooms.call(Rooms.with(1), 1);
        sad.advance(1);
        sad.openWindow(0, 9, 1);
        sad.advance(2);
        Check.sameFloat("44 nobody calm", sad.calmShare(), 0.0f);
    }

    private static void isConsistent() {
        Check.same("45 new", new WaitingRoomSimulation().isConsistent(), true);
        WaitingRoomSimulation room = Rooms.with(1, 30, 20, 5, 9, 8, 7);
        Rooms.call(room, 4);
        room.openWindow(0, 9, 2);
        room.openWindow(2, 3, 9);
        room.swap(1, 2);
        for (int i = 0; i < 15; i++) {
            if (i == 2) {
                room.remove(0);
            }
            room.advance(1);
            Check.same("45 minute " + i, room.isConsistent(), true);
        }
    }
}
