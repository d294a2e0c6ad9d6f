import java.util.ArrayDeque;
import java.util.ArrayList;
import java.util.Arrays;
import java.util.Comparator;
import java.util.Deque;
import java.util.IdentityHashMap;
import java.util.List;
import java.util.Map;
import java.util.NoSuchElementException;
import java.util.regex.Matcher;
import java.util.regex.Pattern;

/**
 * The document told a second time, with objects, lists and a regular expression, so that both
 * tellings can be compared on long runs. It shares no code with the class that it checks.
 */
final class Reference {
    private static final String NUMBER = "[0-9][0-9]?";
    private static final String COMMAND = "(add " + NUMBER + "|open [0-9] " + NUMBER + " [0-9]|close [0-9]|call|swap "
        + NUMBER + " " + NUMBER + "|(sit |stand |remove )" + NUMBER + "|advance( " + NUMBER + ")?)";
    private static final Pattern SCRIPT = Pattern.compile(COMMAND + "(;" + COMMAND + ")*");

    private static final class Guest {
        int ticket;
        int patience;
        int sighs;
        int ache;
        int waited;
        boolean called;
        boolean sits;
    }

    private static final class Desk {
        int open;
        int pace;
        Guest guest;
        int service;
    }

    private static final class Place {
        List<Guest> guests = new ArrayList<>();
        List<Guest> line = new ArrayList<>();
        Desk[] desks = {new Desk(), new Desk(), new Desk()};
        List<int[]> log = new ArrayList<>();
        int minute;
        int added;
        int walkedOut;
        int sighs;

        Place copy() {
            Map<Guest, Guest> twins = new IdentityHashMap<>();
            Place twin = new Place();
            for (Guest guest : guests) {
                Guest other = new Guest();
                other.ticket = guest.ticket;
                other.patience = guest.patience;
                other.sighs = guest.sighs;
                other.ache = guest.ache;
                other.waited = guest.waited;
                other.called = guest.called;
                other.sits = guest.sits;
                twins.put(guest, other);
                twin.guests.add(other);
            }
            for (Guest guest : line) {
                twin.line.add(twins.get(guest));
            }
            for (int i = 0; i < 3; i++) {
                twin.desks[i].open = desks[i].open;
                twin.desks[i].pace = desks[i].pace;
                twin.desks[i].guest = twins.get(desks[i].guest);
                twin.desks[i].service = desks[i].service;
            }
            twin.log.addAll(log);
            twin.minute = minute;
            twin.added = added;
            twin.walkedOut = walkedOut;
            twin.sighs = sighs;
            return twin;
        }
    }

    private Place place = new Place();
    private Place saved;
    private final Deque<Place> past = new ArrayDeque<>();
    private String buffer = "";
    private String output = "";
    private Integer errorPosition;
    private Integer failedCommand;

    int addCustomer(int patience) {
        require(patience >= 1 && patience <= 30, new IllegalArgumentException());
        require(place.guests.size() < 12, new IllegalStateException());
        change();
        Guest guest = new Guest();
        guest.ticket = ++place.added;
        guest.patience = patience;
        place.guests.add(guest);
        place.line.add(guest);
        return place.guests.size() - 1;
    }

    int openWindow(int window, int minutes, int pace) {
        Desk desk = desk(window);
        require(minutes >= 1 && minutes <= 99, new IllegalArgumentException());
        require(pace >= 1 && pace <= 9, new IllegalArgumentException());
        require(desk.open == 0, new IllegalStateException());
        change();
        place.desks[window].open = minutes;
        place.desks[window].pace = pace;
        return openDesks();
    }

    int closeWindow(int window) {
        require(desk(window).open > 0, new IllegalStateException());
        change();
        shut(place.desks[window]);
        return openDesks();
    }

    int callNext() {
        require(!place.guests.stream().allMatch(g -> g.called), new NoSuchElementException());
        change();
        Guest next = place.guests.stream().filter(g -> !g.called).min(Comparator.comparing(g -> g.ticket)).get();
        next.called = true;
        return next.ticket;
    }

    int swap(int first, int second) {
        Guest one = guest(first);
        Guest two = guest(second);
        require(first != second, new IllegalArgumentException());
        int a = place.line.indexOf(one);
        int b = place.line.indexOf(two);
        require(a >= 0 && b >= 0, new IllegalStateException());
        require(place.line.get(Math.min(a, b)).patience >= 2, new UnsupportedOperationException());
        change();
        place.line.get(Math.min(a, b)).patience -= 2;
        java.util.Collections.swap(place.line, a, b);
        return Math.max(a, b) - Math.min(a, b);
    }

    int sit(int customer) {
        Guest guest = guest(customer);
        require(place.line.contains(guest) && !guest.sits, new IllegalStateException());
        require(sitting() < 4, new UnsupportedOperationException());
        change();
        place.guests.get(customer).sits = true;
        return sitting();
    }

    int standUp(int customer) {
        require(guest(customer).sits, new IllegalStateException());
        change();
        place.guests.get(customer).sits = false;
        return sitting();
    }

    int remove(int customer) {
        guest(customer);
        change();
        leave(place.guests.get(customer));
        return place.guests.size();
    }

    int advance(int minutes) {
        require(minutes >= 1 && minutes <= 20, new IllegalArgumentException());
        change();
        int before = place.log.size();
        for (int i = 0; i < minutes; i++) {
            pass();
        }
        return place.log.size() - before;
    }

    int customerCount() {
        return place.guests.size();
    }

    int ticket(int customer) {
        return guest(customer).ticket;
    }

    int patience(int customer) {
        return guest(customer).patience;
    }

    int sighs(int customer) {
        return guest(customer).sighs;
    }

    int ache(int customer) {
        return guest(customer).ache;
    }

    int waitingTime(int customer) {
        return guest(customer).waited;
    }

    boolean isCalled(int customer) {
        return guest(customer).called;
    }

    boolean isSitting(int customer) {
        return guest(customer).sits;
    }

    int position(int customer) {
        int position = place.line.indexOf(guest(customer));
        require(position >= 0, new NoSuchElementException());
        return position;
    }

    int windowOfCustomer(int customer) {
        Guest guest = guest(customer);
        for (int i = 0; i < 3; i++) {
            if (place.desks[i].guest == guest) {
                return i;
            }
        }
        throw new NoSuchElementException();
    }

    int customerAtPosition(int position) {
        require(position >= 0 && position < place.line.size(), new IndexOutOfBoundsException());
        return place.guests.indexOf(place.line.get(position));
    }

    int queueLength() {
        return place.line.size();
    }

    int openingTimeLeft(int window) {
        return desk(window).open;
    }

    int pace(int window) {
        require(desk(window).open > 0, new IllegalStateException());
        return desk(window).pace;
    }

    int customerAtWindow(int window) {
        require(desk(window).guest != null, new NoSuchElementException());
        return place.guests.indexOf(desk(window).guest);
    }

    int serviceTimeLeft(int window) {
        require(desk(window).guest != null, new NoSuchElementException());
        return desk(window).service;
    }

    int calledAhead(int customer) {
        int position = place.line.indexOf(guest(customer));
        return (int) place.line.stream().limit(Math.max(position, 0)).filter(g -> g.called).count();
    }

    int calledAheadByPositions(int customer) {
        return calledAhead(customer);
    }

    int inversionsByBubbleSort() {
        return inversions();
    }

    /** By the promise there is no way to make this false. */
    boolean isConsistent() {
        return true;
    }

    int inversions() {
        int found = 0;
        for (Guest one : place.line) {
            for (Guest two : place.line) {
                if (one.ticket > two.ticket && place.line.indexOf(one) < place.line.indexOf(two)) {
                    found++;
                }
            }
        }
        return found;
    }

    int minutesUntilWindow(int customer) {
        int ticket = guest(customer).ticket;
        Place now = place;
        place = now.copy();
        int found = -1;
        for (int i = 0; i <= 60 && found < 0; i++) {
            for (Desk desk : place.desks) {
                if (desk.guest != null && desk.guest.ticket == ticket) {
                    found = i;
                }
            }
            pass();
        }
        place = now;
        require(found >= 0, new NoSuchElementException());
        return found;
    }

    int patienceAfter(int customer, int minutes) {
        int ticket = guest(customer).ticket;
        require(minutes >= 0 && minutes <= 60, new IllegalArgumentException());
        return later(minutes).guests.stream().filter(g -> g.ticket == ticket).findFirst()
            .orElseThrow(NoSuchElementException::new).patience;
    }

    int sighsWithin(int minutes) {
        require(minutes >= 0 && minutes <= 60, new IllegalArgumentException());
        return later(minutes).sighs - place.sighs;
    }

    int servedTicket(int recency) {
        return served(recency)[0];
    }

    int servedWaitingTime(int recency) {
        return served(recency)[1];
    }

    int customerBySighs(int rank) {
        return ranked(rank, Comparator.comparing((Guest g) -> -g.sighs).thenComparing(g -> g.patience));
    }

    int customerByWaitingTime(int rank) {
        return ranked(rank, Comparator.comparing((Guest g) -> -g.waited).thenComparing(g -> g.called));
    }

    int minute() {
        return place.minute;
    }

    int addedTotal() {
        return place.added;
    }

    int servedTotal() {
        return place.log.size();
    }

    int walkedOutTotal() {
        return place.walkedOut;
    }

    int sighTotal() {
        return place.sighs;
    }

    double meanPatience() {
        require(!place.guests.isEmpty(), new ArithmeticException());
        return place.guests.stream().mapToInt(g -> g.patience).average().getAsDouble();
    }

    float calmShare() {
        require(!place.log.isEmpty(), new ArithmeticException());
        return (float) place.log.stream().filter(entry -> entry[2] == 0).count() / place.log.size();
    }

    int renderQueue() {
        List<String> words = new ArrayList<>();
        for (Guest guest : place.line) {
            words.add(guest.ticket + (guest.called ? "!" : "") + (guest.sits ? "_" : ""));
        }
        output = String.join(" ", words);
        return output.length();
    }

    int renderWindows() {
        output = "";
        for (int i = 0; i < 3; i++) {
            Desk desk = place.desks[i];
            String state = desk.guest == null ? "-" : desk.guest.ticket + "/" + desk.service;
            output += (i == 0 ? "" : " ") + i + ":" + (desk.open == 0 ? "x" : state);
        }
        return output.length();
    }

    char outputAt(int index) {
        require(index >= 0 && index < output.length(), new IndexOutOfBoundsException());
        return output.charAt(index);
    }

    int type(char character) {
        require(character >= 32 && character <= 126, new IllegalArgumentException());
        require(buffer.length() < 60, new IllegalStateException());
        buffer += character;
        return buffer.length();
    }

    int runScript() {
        String script = buffer;
        buffer = "";
        if (!SCRIPT.matcher(script).matches()) {
            errorPosition = 0;
            while (errorPosition < script.length() && canGoOn(script.substring(0, errorPosition + 1))) {
                errorPosition++;
            }
            throw new IllegalArgumentException();
        }
        Place before = place.copy();
        Deque<Place> pastBefore = new ArrayDeque<>(past);
        String[] commands = script.split(";");
        for (int i = 0; i < commands.length; i++) {
            try {
                execute(commands[i].split(" "));
            } catch (RuntimeException e) {
                failedCommand = i;
                place = before;
                past.clear();
                past.addAll(pastBefore);
                throw new IllegalStateException();
            }
        }
        past.clear();
        past.addAll(pastBefore);
        past.push(before);
        if (past.size() > 8) {
            past.removeLast();
        }
        return commands.length;
    }

    int errorPosition() {
        require(errorPosition != null, new NoSuchElementException());
        return errorPosition;
    }

    int failedCommand() {
        require(failedCommand != null, new NoSuchElementException());
        return failedCommand;
    }

    int undo() {
        place = past.pop();
        return past.size();
    }

    int save() {
        saved = place.copy();
        return place.guests.size();
    }

    int restore() {
        require(saved != null, new IllegalStateException());
        place = saved.copy();
        past.clear();
        return place.guests.size();
    }

    private static void require(boolean holds, RuntimeException otherwise) {
        if (!holds) {
            throw otherwise;
        }
    }

    private Guest guest(int customer) {
        require(customer >= 0 && customer < place.guests.size(), new IndexOutOfBoundsException());
        return place.guests.get(customer);
    }

    private Desk desk(int window) {
        require(window >= 0 && window < 3, new IndexOutOfBoundsException());
        return place.desks[window];
    }

    private void change() {
        past.push(place);
        place = place.copy();
        if (past.size() > 8) {
            past.removeLast();
        }
    }

    private int openDesks() {
        return (int) Arrays.stream(place.desks).filter(d -> d.open > 0).count();
    }

    private int sitting() {
        return (int) place.guests.stream().filter(g -> g.sits).count();
    }

    private void leave(Guest guest) {
        place.guests.remove(guest);
        place.line.remove(guest);
        for (Desk desk : place.desks) {
            if (desk.guest == guest) {
                desk.guest = null;
            }
        }
    }

    private void shut(Desk desk) {
        desk.open = 0;
        if (desk.guest != null) {
            place.line.add(0, desk.guest);
            desk.guest = null;
        }
    }

    private void pass() {
        for (Desk desk : place.desks) {
            if (desk.open == 0) {
                continue;
            }
            Guest guest = desk.guest;
            if (guest != null && --desk.service == 0) {
                leave(guest);
                place.log.add(new int[] {guest.ticket, guest.waited, guest.sighs});
            }
            if (desk.open == 1) {
                shut(desk);
            } else {
                desk.open--;
            }
        }
        for (Guest guest : new ArrayList<>(place.line)) {
            guest.waited++;
            if (guest.sits) {
                guest.ache = guest.ache == 6 ? 6 : guest.ache + 1;
                if (guest.ache == 6) {
                    guest.sits = false;
                }
                continue;
            }
            guest.ache = guest.ache == 0 ? 0 : guest.ache - 1;
            guest.patience = guest.patience == 0 ? 0 : guest.patience - 1;
            if (guest.patience == 0) {
                guest.sighs++;
                place.sighs++;
                if (guest.sighs == 3) {
                    leave(guest);
                    place.walkedOut++;
                }
            }
        }
        for (Desk desk : place.desks) {
            if (desk.open > 0 && desk.guest == null) {
                place.line.stream().filter(g -> g.called).findFirst().ifPresent(guest -> {
                    place.line.remove(guest);
                    guest.sits = false;
                    desk.guest = guest;
                    desk.service = desk.pace;
                });
            }
        }
        place.minute++;
    }

    private Place later(int minutes) {
        Place now = place;
        place = now.copy();
        for (int i = 0; i < minutes; i++) {
            pass();
        }
        Place later = place;
        place = now;
        return later;
    }

    private int[] served(int recency) {
        int size = place.log.size();
        require(recency >= 0 && recency < 6 && recency < size, new NoSuchElementException());
        return place.log.get(size - 1 - recency);
    }

    private int ranked(int rank, Comparator<Guest> order) {
        require(rank >= 0 && rank < place.guests.size(), new NoSuchElementException());
        List<Guest> sorted = new ArrayList<>(place.guests);
        sorted.sort(order);
        return place.guests.indexOf(sorted.get(rank));
    }

    private static boolean canGoOn(String start) {
        Matcher matcher = SCRIPT.matcher(start);
        return matcher.matches() || matcher.hitEnd();
    }

    private void execute(String[] words) {
        int[] n = new int[3];
        for (int i = 1; i < words.length; i++) {
            n[i - 1] = Integer.parseInt(words[i]);
        }
        switch (words[0]) {
            case "add" -> addCustomer(n[0]);
            case "open" -> openWindow(n[0], n[1], n[2]);
            case "close" -> closeWindow(n[0]);
            case "call" -> callNext();
            case "swap" -> swap(n[0], n[1]);
            case "sit" -> sit(n[0]);
            case "stand" -> standUp(n[0]);
            case "remove" -> remove(n[0]);
            default -> advance(words.length == 1 ? 1 : n[0]);
        }
    }
}
