import java.util.function.Supplier;

/** Long runs of calls, each answer compared with the one of the reference. */
final class ReferenceTest {
    private static final int RUNS = 1500;
    private static final int CALLS = 512;
    private static final int[] FAR = {Integer.MIN_VALUE, Integer.MAX_VALUE, -1, -2, 1000, 65536};
    private static final String[] WORDS = {"add ", "open ", "close ", "call", "swap ", "sit ", "stand ", "remove ",
        "advance", "advance ", ";", " ", "1", "0", "07", "30", "x", "a", "s"};

    private long seed;
    private WaitingRoomSimulation room;
    private Reference due;
    private String pending = "";
    private int style;
    private int used;

    private ReferenceTest(long seed) {
        this.seed = seed;
    }

    static void run() {
        for (int i = 0; i < RUNS; i++) {
            new ReferenceTest(i).compare(i);
        }
        for (int i = 0; i < 3 * RUNS; i++) {
            new ReferenceTest(i).compareForms(i);
        }
    }

    private void compare(int run) {
        room = new WaitingRoomSimulation();
        due = new Reference();
        style = run % 4;
        for (used = 0; used < CALLS; used++) {
            if (!agree("reference: run " + run + ", call " + used + ", ", anyCall())) {
                return;
            }
        }
    }

    /** Types and runs scripts that are right up to a few changed characters. */
    private void compareForms(int run) {
        room = new WaitingRoomSimulation();
        due = new Reference();
        used = 0;
        while (used + 63 < CALLS) {
            String script = damaged(anyScript());
            for (int i = 0; i < script.length(); i++) {
                room.type(script.charAt(i));
                due.type(script.charAt(i));
            }
            used += script.length() + 3;
            String what = "reference: form, run " + run + ", '" + script + "' ";
            if (!agree(what, new Pair("runScript", () -> room.runScript(), () -> due.runScript()))
                    || !agree(what, new Pair("errorPosition", () -> room.errorPosition(), () -> due.errorPosition()))
                    || !agree(what, new Pair("failedCommand", () -> room.failedCommand(), () -> due.failedCommand()))) {
                return;
            }
        }
    }

    private static final class Pair {
        final String name;
        final Supplier<Object> got;
        final Supplier<Object> due;

        Pair(String name, Supplier<Object> got, Supplier<Object> due) {
            this.name = name;
            this.got = got;
            this.due = due;
        }
    }

    private static boolean agree(String what, Pair pair) {
        String got = answer(pair.got);
        String due = answer(pair.due);
        Check.same(what + pair.name, got, due);
        return got.equals(due);
    }

    private static String answer(Supplier<Object> call) {
        try {
            return call.get().toString();
        } catch (RuntimeException e) {
            return "throws." + e.getClass().getName();
        }
    }

    private int below(int bound) {
        seed = seed * 6364136223846793005L + 1442695040888963407L;
        return (int) Math.floorMod(seed >>> 33, (long) bound);
    }

    private int number(int low, int high) {
        if (below(40) == 0) {
            return FAR[below(FAR.length)];
        }
        return low + below(high - low + 1);
    }

    private Pair anyCall() {
        if (!pending.isEmpty()) {
            return typePending();
        }
        int kind = below(100);
        if (kind < 3 + style * 2) {
            pending = below(3) == 0 ? damaged(anyScript()) : anyScript();
            pending += "\n";
            return typePending();
        }
        if (kind < 55) {
            return anyChange();
        }
        if (kind < 78) {
            return aboutCustomer();
        }
        return kind < 88 ? aboutHall() : aboutTotals();
    }

    private Pair typePending() {
        char next = pending.charAt(0);
        pending = pending.substring(1);
        if (next == '\n') {
            return new Pair("runScript", () -> room.runScript(), () -> due.runScript());
        }
        return new Pair("type " + next, () -> room.type(next), () -> due.type(next));
    }

    private Pair anyChange() {
        int a = number(-1, 12);
        int b = number(-1, 12);
        int window = number(-1, 3);
        switch (below(20)) {
            case 0: case 1: case 2: case 3:
                int patience = style == 1 ? number(0, 6) : number(0, 31);
                return new Pair("addCustomer " + patience, () -> room.addCustomer(patience),
                        () -> due.addCustomer(patience));
            case 4: case 5: case 6:
                int minutes = style == 2 ? number(0, 6) : number(0, 100);
                int pace = style == 3 ? number(0, 3) : number(0, 10);
                return new Pair("openWindow " + window + " " + minutes + " " + pace,
                        () -> room.openWindow(window, minutes, pace), () -> due.openWindow(window, minutes, pace));
            case 7:
                return new Pair("closeWindow " + window, () -> room.closeWindow(window), () -> due.closeWindow(window));
            case 8: case 9: case 10:
                return new Pair("callNext", () -> room.callNext(), () -> due.callNext());
            case 11: case 12:
                return new Pair("swap " + a + " " + b, () -> room.swap(a, b), () -> due.swap(a, b));
            case 13: case 14:
                return new Pair("sit " + a, () -> room.sit(a), () -> due.sit(a));
            case 15:
                return new Pair("standUp " + a, () -> room.standUp(a), () -> due.standUp(a));
            case 16:
                return new Pair("remove " + a, () -> room.remove(a), () -> due.remove(a));
            case 17: case 18:
                int duration = below(8) == 0 ? number(0, 21) : number(1, 3);
                return new Pair("advance " + duration, () -> room.advance(duration), () -> due.advance(duration));
            default:
                return undoOrSnapshot();
        }
    }

    private Pair undoOrSnapshot() {
        switch (below(5)) {
            case 0:
                return new Pair("save", () -> room.save(), () -> due.save());
            case 1:
                return new Pair("restore", () -> room.restore(), () -> due.restore());
            default:
                return new Pair("undo", () -> room.undo(), () -> due.undo());
        }
    }

    private Pair aboutCustomer() {
        int c = number(-1, 12);
        switch (below(17)) {
            case 0:
                return new Pair("ticket " + c, () -> room.ticket(c), () -> due.ticket(c));
            case 1:
                return new Pair("patience " + c, () -> room.patience(c), () -> due.patience(c));
            case 2:
                return new Pair("sighs " + c, () -> room.sighs(c), () -> due.sighs(c));
            case 3:
                return new Pair("ache " + c, () -> room.ache(c), () -> due.ache(c));
            case 4:
                return new Pair("waitingTime " + c, () -> room.waitingTime(c), () -> due.waitingTime(c));
            case 5:
                return new Pair("isCalled " + c, () -> room.isCalled(c), () -> due.isCalled(c));
            case 6:
                return new Pair("isSitting " + c, () -> room.isSitting(c), () -> due.isSitting(c));
            case 7:
                return new Pair("position " + c, () -> room.position(c), () -> due.position(c));
            case 8:
                return new Pair("windowOfCustomer " + c, () -> room.windowOfCustomer(c), () -> due.windowOfCustomer(c));
            case 9:
                return new Pair("customerAtPosition " + c, () -> room.customerAtPosition(c),
                        () -> due.customerAtPosition(c));
            case 10:
                return new Pair("calledAhead " + c, () -> room.calledAhead(c), () -> due.calledAhead(c));
            case 11:
                return new Pair("calledAheadByPositions " + c, () -> room.calledAheadByPositions(c),
                        () -> due.calledAheadByPositions(c));
            case 12:
                return new Pair("customerBySighs " + c, () -> room.customerBySighs(c), () -> due.customerBySighs(c));
            case 13:
                return new Pair("customerByWaitingTime " + c, () -> room.customerByWaitingTime(c),
                        () -> due.customerByWaitingTime(c));
            case 14:
                return new Pair("minutesUntilWindow " + c, () -> room.minutesUntilWindow(c),
                        () -> due.minutesUntilWindow(c));
            default:
                int m = below(3) == 0 ? number(-1, 61) : number(0, 12);
                return new Pair("patienceAfter " + c + " " + m, () -> room.patienceAfter(c, m),
                        () -> due.patienceAfter(c, m));
        }
    }

    private Pair aboutHall() {
        int w = number(-1, 3);
        switch (below(8)) {
            case 0:
                return new Pair("openingTimeLeft " + w, () -> room.openingTimeLeft(w), () -> due.openingTimeLeft(w));
            case 1:
                return new Pair("pace " + w, () -> room.pace(w), () -> due.pace(w));
            case 2:
                return new Pair("customerAtWindow " + w, () -> room.customerAtWindow(w), () -> due.customerAtWindow(w));
            case 3:
                return new Pair("serviceTimeLeft " + w, () -> room.serviceTimeLeft(w), () -> due.serviceTimeLeft(w));
            case 4:
                return new Pair("inversions", () -> room.inversions(), () -> due.inversions());
            case 5:
                return new Pair("inversionsByBubbleSort", () -> room.inversionsByBubbleSort(),
                        () -> due.inversionsByBubbleSort());
            case 6:
                return new Pair("queueLength", () -> room.queueLength(), () -> due.queueLength());
            default:
                return new Pair("customerCount", () -> room.customerCount(), () -> due.customerCount());
        }
    }

    private Pair aboutTotals() {
        int n = number(-1, 7);
        switch (below(18)) {
            case 0:
                return new Pair("servedTicket " + n, () -> room.servedTicket(n), () -> due.servedTicket(n));
            case 1:
                return new Pair("servedWaitingTime " + n, () -> room.servedWaitingTime(n),
                        () -> due.servedWaitingTime(n));
            case 2:
                return new Pair("minute", () -> room.minute(), () -> due.minute());
            case 3:
                return new Pair("addedTotal", () -> room.addedTotal(), () -> due.addedTotal());
            case 4:
                return new Pair("servedTotal", () -> room.servedTotal(), () -> due.servedTotal());
            case 5:
                return new Pair("walkedOutTotal", () -> room.walkedOutTotal(), () -> due.walkedOutTotal());
            case 6:
                return new Pair("sighTotal", () -> room.sighTotal(), () -> due.sighTotal());
            case 7:
                return new Pair("meanPatience", () -> room.meanPatience(), () -> due.meanPatience());
            case 8:
                return new Pair("calmShare", () -> room.calmShare(), () -> due.calmShare());
            case 9:
                return new Pair("isConsistent", () -> room.isConsistent(), () -> due.isConsistent());
            case 10:
                return new Pair("renderQueue", () -> room.renderQueue(), () -> due.renderQueue());
            case 11:
                return new Pair("renderWindows", () -> room.renderWindows(), () -> due.renderWindows());
            case 12: case 13: case 14:
                int index = number(-1, 30);
                return new Pair("outputAt " + index, () -> room.outputAt(index), () -> due.outputAt(index));
            case 15:
                return new Pair("errorPosition", () -> room.errorPosition(), () -> due.errorPosition());
            case 16:
                return new Pair("failedCommand", () -> room.failedCommand(), () -> due.failedCommand());
            default:
                int m = number(-1, 61);
                return new Pair("sighsWithin " + m, () -> room.sighsWithin(m), () -> due.sighsWithin(m));
        }
    }

    private String anyScript() {
        String script = anyCommand();
        for (int i = below(6); i > 0 && script.length() < 45; i--) {
            script += ";" + anyCommand();
        }
        return script;
    }

    private String anyCommand() {
        int customer = below(customers() + 1);
        switch (below(12)) {
            case 0: case 1: case 2:
                return "add " + (1 + below(30));
            case 3:
                return "open " + below(3) + " " + (1 + below(99)) + " " + (1 + below(9));
            case 4:
                return "close " + below(4);
            case 5: case 6:
                return "call";
            case 7:
                return "swap " + customer + " " + below(customers() + 1);
            case 8:
                return "sit " + customer;
            case 9:
                return "stand " + customer;
            case 10:
                return below(4) == 0 ? "remove " + customer : "advance";
            default:
                return "advance " + below(4);
        }
    }

    private int customers() {
        return due.customerCount();
    }

    private String damaged(String script) {
        StringBuilder text = new StringBuilder(script);
        for (int i = below(3); i > 0 && text.length() > 0; i--) {
            int at = below(text.length());
            switch (below(5)) {
                case 0:
                    text.deleteCharAt(at);
                    break;
                case 1:
                    text.insert(at, WORDS[below(WORDS.length)]);
                    break;
                case 2:
                    text.setLength(at);
                    break;
                case 3:
                    text.append(WORDS[below(WORDS.length)]);
                    break;
                default:
                    text.setCharAt(at, (char) (32 + below(95)));
                    break;
            }
        }
        text.setLength(Math.min(text.length(), 60));
        return text.toString();
    }
}
