/** Makes halls for the tests and looks at them as a whole. */
final class Rooms {
    private Rooms() {
    }

    /** A hall with one customer in the queue for each patience. */
    static WaitingRoomSimulation with(int... patiences) {
        WaitingRoomSimulation room = new WaitingRoomSimulation();
        for (int patience : patiences) {
            room.addCustomer(patience);
        }
        return room;
    }

    /** A hall with this many customers of patience 30. */
    static WaitingRoomSimulation crowd(int customers) {
        WaitingRoomSimulation room = new WaitingRoomSimulation();
        for (int i = 0; i < customers; i++) {
            room.addCustomer(30);
        }
        return room;
    }

    static WaitingRoomSimulation call(WaitingRoomSimulation room, int tickets) {
        for (int i = 0; i < tickets; i++) {
            room.callNext();
        }
        return room;
    }

    static void type(WaitingRoomSimulation room, String text) {
        for (int i = 0; i < text.length(); i++) {
            room.type(text.charAt(i));
        }
    }

    static int run(WaitingRoomSimulation room, String text) {
        type(room, text);
        return room.runScript();
    }

    static String queue(WaitingRoomSimulation room) {
        return output(room, room.renderQueue());
    }

    static String windows(WaitingRoomSimulation room) {
        return output(room, room.renderWindows());
    }

    static String output(WaitingRoomSimulation room, int length) {
        StringBuilder text = new StringBuilder();
        for (int i = 0; i < length; i++) {
            text.append(room.outputAt(i));
        }
        return text.toString();
    }

    /** All that undo and the snapshot cover, as far as it can be seen; it replaces the output text. */
    static String state(WaitingRoomSimulation room) {
        StringBuilder text = new StringBuilder();
        text.append(queue(room)).append(" | ").append(windows(room)).append(" |");
        for (int i = 0; i < room.customerCount(); i++) {
            text.append(' ').append(room.ticket(i)).append(':').append(room.patience(i)).append(',')
                .append(room.sighs(i)).append(',').append(room.ache(i)).append(',').append(room.waitingTime(i));
        }
        text.append(" |");
        for (int i = 0; i < 3; i++) {
            text.append(' ').append(room.openingTimeLeft(i));
            if (room.openingTimeLeft(i) > 0) {
                text.append('/').append(room.pace(i));
            }
        }
        text.append(" |");
        for (int i = 0; i < Math.min(6, room.servedTotal()); i++) {
            text.append(' ').append(room.servedTicket(i)).append('/').append(room.servedWaitingTime(i));
        }
        text.append(" | ").append(room.minute()).append(' ').append(room.addedTotal())
            .append(' ').append(room.servedTotal()).append(' ').append(room.walkedOutTotal())
            .append(' ').append(room.sighTotal()).append(' ').append(room.isConsistent());
        if (room.servedTotal() > 0) {
            text.append(' ').append(room.calmShare());
        }
        return text.toString();
    }
}
