import java.util.NoSuchElementException;
import java.util.function.Consumer;

/** Promises 53 to 55: undo and the snapshot. */
final class UndoTest {
    private UndoTest() {
    }

    static void run() {
        everyChange();
        depth();
        afterUndo();
        statistics();
        noChanges();
        snapshot();
        snapshotAndUndo();
    }

    private static void everyChange() {
        undoes("addCustomer", room -> room.addCustomer(5));
        undoes("openWindow", room -> room.openWindow(0, 5, 5));
        undoes("closeWindow", room -> room.closeWindow(2));
        undoes("callNext", room -> room.callNext());
        undoes("swap", room -> room.swap(0, 4));
        undoes("sit", room -> room.sit(3));
        undoes("standUp", room -> room.standUp(1));
        undoes("remove", room -> room.remove(1));
        undoes("advance", room -> room.advance(7));
        undoes("runScript", room -> Rooms.run(room, "add 5;advance 9;remove 0"));
    }

    private static void undoes(String what, Consumer<WaitingRoomSimulation> change) {
        WaitingRoomSimulation room = Rooms.call(Rooms.crowd(5), 2);
        room.openWindow(2, 9, 3);
        room.sit(1);
        String before = Rooms.state(room);
        change.accept(room);
        Check.same("53 " + what + " changes something", Rooms.state(room).equals(before), false);
        room.undo();
        Check.same("53 " + what, Rooms.state(room), before);
    }

    private static void depth() {
        WaitingRoomSimulation room = new WaitingRoomSimulation();
        Check.refuses("53 nothing to undo", NoSuchElementException.class, room::undo);
        String[] states = new String[10];
        for (int i = 0; i < 10; i++) {
            states[i] = Rooms.queue(room);
            room.addCustomer(5 + i);
        }
        for (int i = 0; i < 8; i++) {
            Check.same("53 still to undo", room.undo(), 7 - i);
            Check.same("53 back to " + (9 - i), Rooms.queue(room), states[9 - i]);
        }
        Check.refuses("53 only eight", NoSuchElementException.class, room::undo);
        Check.same("53 two customers stay", room.customerCount(), 2);
    }

    private static void afterUndo() {
        WaitingRoomSimulation room = Rooms.crowd(3);
        room.undo();
        room.undo();
        room.addCustomer(9);
        Check.same("53 a number of an undone ticket", room.ticket(1), 2);
        Check.same("53 new changes on old ones", room.undo(), 1);
        Check.same("53 then the old ones", room.undo(), 0);
        Check.refuses("53 nothing is left", NoSuchElementException.class, room::undo);
        for (int i = 0; i < 9; i++) {
            room.addCustomer(9);
        }
        room.undo();
        room.advance(1);
        Check.same("53 eight again", room.undo(), 7);
    }

    private static void statistics() {
        WaitingRoomSimulation room = Rooms.call(Rooms.with(30, 1, 30), 1);
        room.openWindow(0, 9, 1);
        room.advance(1);
        String before = Rooms.state(room);
        room.advance(5);
        Check.same("53 served and walked out", room.servedTotal() + room.walkedOutTotal(), 2);
        room.undo();
        Check.same("53 all statistics", Rooms.state(room), before);
        Check.refuses("53 no served customer", NoSuchElementException.class, () -> room.servedTicket(0));
        Check.refuses("53 no share", ArithmeticException.class, room::calmShare);
    }

    private static void noChanges() {
        WaitingRoomSimulation room = Rooms.crowd(1);
        room.save();
        room.renderQueue();
        room.type('a');
        room.isConsistent();
        Check.refuses("53 a refused change", IllegalStateException.class, () -> room.closeWindow(0));
        Check.refuses("53 a refused script", IllegalArgumentException.class, room::runScript);
        Check.same("53 only the customer was a change", room.undo(), 0);
        WaitingRoomSimulation same = new WaitingRoomSimulation();
        same.addCustomer(30);
        same.addCustomer(30);
        same.advance(1);
        same.sit(0);
        Rooms.run(same, "stand 0;sit 0");
        Check.same("53 a change that leaves the state the same", same.undo(), 4);
        Check.same("53 it still sits", same.isSitting(0), true);
    }

    private static void snapshot() {
        WaitingRoomSimulation room = Rooms.call(Rooms.with(9, 30, 2, 8), 1);
        Check.refuses("55 no snapshot", IllegalStateException.class, room::restore);
        room.openWindow(1, 30, 2);
        room.sit(2);
        room.advance(3);
        String saved = Rooms.state(room);
        Check.same("54 customers", room.save(), 3);
        Check.same("54 changes nothing", Rooms.state(room), saved);
        room.advance(20);
        room.addCustomer(4);
        Check.same("55 customers", room.restore(), 3);
        Check.same("55 everything is back", Rooms.state(room), saved);
        Check.refuses("55 nothing to undo", NoSuchElementException.class, room::undo);
        room.remove(0);
        room.remove(0);
        Check.same("55 the snapshot is kept", room.restore(), 3);
        Check.same("55 as it was", Rooms.state(room), saved);
        room.remove(0);
        Check.same("54 replaces the earlier one", room.save(), 2);
        room.addCustomer(5);
        Check.same("55 the later one", room.restore(), 2);
        WaitingRoomSimulation empty = new WaitingRoomSimulation();
        Check.same("54 an empty hall", empty.save(), 0);
        empty.addCustomer(5);
        Check.same("55 an empty hall", empty.restore(), 0);
    }

    private static void snapshotAndUndo() {
        WaitingRoomSimulation room = Rooms.crowd(2);
        room.save();
        room.addCustomer(30);
        Check.same("54 is no change", room.undo(), 2);
        Check.same("54 undo goes behind the snapshot", room.undo(), 1);
        Check.same("55 undo leaves the snapshot", room.restore(), 2);
        room.addCustomer(30);
        Check.same("55 changes after it can be undone", room.undo(), 0);
        Check.same("55 undone", Rooms.queue(room), "1 2");
        room.advance(5);
        room.restore();
        Check.same("55 the snapshot was not touched", room.minute(), 0);
    }
}
