/** Promises 46 to 48: the output text. */
final class OutputTest {
    private OutputTest() {
    }

    static void run() {
        empty();
        queue();
        windows();
        kept();
    }

    private static void empty() {
        WaitingRoomSimulation room = new WaitingRoomSimulation();
        refusesIndex(room, 0);
        refusesIndex(room, -1);
        Check.same("46 an empty queue", room.renderQueue(), 0);
        refusesIndex(room, 0);
    }

    private static void queue() {
        WaitingRoomSimulation room = Rooms.crowd(5);
        room.remove(0);
        room.remove(0);
        room.swap(0, 2);
        room.sit(0);
        room.swap(1, 0);
        Check.same("46 in the order of the queue", Rooms.queue(room), "5 3_ 4");
        room.callNext();
        Check.same("46 called and sitting", Rooms.queue(room), "5 3!_ 4");
        room.swap(0, 1);
        room.callNext();
        Check.same("46 length", room.renderQueue(), 8);
        Check.same("46 text", Rooms.queue(room), "5 4! 3!_");
        Check.same("48 first", room.outputAt(0), '5');
        Check.same("48 last", room.outputAt(7), '_');
        int[] refused = {-1, 8, Integer.MIN_VALUE, Integer.MAX_VALUE};
        for (int index : refused) {
            refusesIndex(room, index);
        }
        WaitingRoomSimulation called = Rooms.call(Rooms.crowd(12), 12);
        for (int i = 0; i < 4; i++) {
            called.sit(i);
        }
        Check.same("46 a long text", Rooms.queue(called), "1!_ 2!_ 3!_ 4!_ 5! 6! 7! 8! 9! 10! 11! 12!");
    }

    private static void windows() {
        WaitingRoomSimulation room = Rooms.crowd(12);
        Check.same("47 closed", Rooms.windows(room), "0:x 1:x 2:x");
        for (int i = 0; i < 11; i++) {
            room.remove(0);
        }
        room.callNext();
        room.openWindow(0, 9, 3);
        room.openWindow(1, 9, 3);
        Check.same("47 open and empty", Rooms.windows(room), "0:- 1:- 2:x");
        room.advance(1);
        Check.same("47 length", room.renderWindows(), 14);
        Check.same("47 as in the document", Rooms.windows(room), "0:12/3 1:- 2:x");
        room.advance(1);
        Check.same("47 later", Rooms.windows(room), "0:12/2 1:- 2:x");
        Check.same("47 the queue is empty", room.renderQueue(), 0);
    }

    private static void kept() {
        WaitingRoomSimulation room = Rooms.crowd(2);
        room.renderWindows();
        room.remove(0);
        room.undo();
        room.save();
        room.restore();
        Check.same("48 the text stays until it is replaced", Rooms.output(room, 11), "0:x 1:x 2:x");
        room.renderQueue();
        Check.same("48 replaced", Rooms.output(room, 3), "1 2");
        refusesIndex(room, 3);
        Check.same("48 a refusal keeps the text", Rooms.output(room, 3), "1 2");
    }

    private static void refusesIndex(WaitingRoomSimulation room, int index) {
        Check.refuses("48 index " + index, IndexOutOfBoundsException.class, () -> room.outputAt(index));
    }
}
