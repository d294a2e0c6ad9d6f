import java.util.NoSuchElementException;

/** A ticket hall in which customers with limited patience wait for three service windows. */
public final class WaitingRoomSimulation {
    private static final int MAX_CUSTOMERS = 12;
    private static final int MAX_PATIENCE = 30;
    private static final int MAX_ACHE = 6;
    private static final int SIGHS_TO_WALK_OUT = 3;
    private static final int SWAP_COST = 2;
    private static final int CHAIRS = 4;
    private static final int WINDOWS = 3;
    private static final int MAX_OPENING_TIME = 99;
    private static final int MAX_PACE = 9;
    private static final int MAX_ADVANCE = 20;
    private static final int MAX_PREDICTION = 60;
    private static final int REMEMBERED = 6;
    private static final int UNDO_DEPTH = 8;
    private static final int SCRIPT_SIZE = 60;
    private static final int MAX_NUMBERS = 3;
    private static final char FIRST_TYPED = 32;
    private static final char LAST_TYPED = 126;

    /** Stands for an index, a position or a count that does not exist. */
    private static final int NONE = -1;

    // A change answers one of these instead of its result when it is refused. Results are
    // never negative, so that a script can stop at a refusal without catching anything.
    private static final int NO_SUCH_INDEX = -1;
    private static final int BAD_ARGUMENT = -2;
    private static final int BAD_STATE = -3;
    private static final int UNSUPPORTED = -4;
    private static final int NO_ELEMENT = -5;

    // The two signs that stand for digits in the form of a command.
    private static final char ONE_DIGIT = '%';
    private static final char NUMBER = '#';

    private static final Command[] COMMANDS = Command.values();

    private Hall hall;
    /** The hall in which a change or a prediction is tried; its content is free between two calls. */
    private Hall trial;
    private final Hall snapshot;
    private boolean hasSnapshot;
    private final Hall[] history;
    private int undoable;
    private final Script script;
    private int latestErrorPosition;
    private int latestFailedCommand;
    private final StringBuilder output;
    private final int[] sortedTickets;

    public WaitingRoomSimulation() {
        hall = new Hall();
        trial = new Hall();
        snapshot = new Hall();
        history = new Hall[UNDO_DEPTH];
        for (int i = 0; i < UNDO_DEPTH; i++) {
            history[i] = new Hall();
        }
        script = new Script();
        latestErrorPosition = NONE;
        latestFailedCommand = NONE;
        output = new StringBuilder();
        sortedTickets = new int[MAX_CUSTOMERS];
    }

    // Changes

    public int addCustomer(int patience) throws IllegalArgumentException, IllegalStateException {
        trial.copyFrom(hall);
        return commit(trial.admit(patience));
    }

    public int openWindow(int window, int minutes, int pace)
            throws IndexOutOfBoundsException, IllegalArgumentException, IllegalStateException {
        trial.copyFrom(hall);
        return commit(trial.open(window, minutes, pace));
    }

    public int closeWindow(int window) throws IndexOutOfBoundsException, IllegalStateException {
        trial.copyFrom(hall);
        return commit(trial.close(window));
    }

    public int callNext() throws NoSuchElementException {
        trial.copyFrom(hall);
        return commit(trial.callLowestTicket());
    }

    public int swap(int first, int second)
            throws IndexOutOfBoundsException, IllegalArgumentException, IllegalStateException,
            UnsupportedOperationException {
        trial.copyFrom(hall);
        return commit(trial.exchange(first, second));
    }

    public int sit(int customer)
            throws IndexOutOfBoundsException, IllegalStateException, UnsupportedOperationException {
        trial.copyFrom(hall);
        return commit(trial.seat(customer));
    }

    public int standUp(int customer) throws IndexOutOfBoundsException, IllegalStateException {
        trial.copyFrom(hall);
        return commit(trial.unseat(customer));
    }

    public int remove(int customer) throws IndexOutOfBoundsException {
        trial.copyFrom(hall);
        return commit(trial.dismiss(customer));
    }

    public int advance(int minutes) throws IllegalArgumentException {
        trial.copyFrom(hall);
        return commit(trial.pass(minutes));
    }

    /** Makes the trial hall the present one, unless the answer is a refusal. */
    private int commit(int answer) {
        throwIfRefused(answer);
        if (undoable == UNDO_DEPTH) {
            forgetOldestChange();
        }
        Hall free = history[undoable];
        history[undoable] = hall;
        undoable++;
        hall = trial;
        trial = free;
        return answer;
    }

    private void forgetOldestChange() {
        Hall oldest = history[0];
        for (int i = 1; i < UNDO_DEPTH; i++) {
            history[i - 1] = history[i];
        }
        history[UNDO_DEPTH - 1] = oldest;
        undoable = UNDO_DEPTH - 1;
    }

    private static void throwIfRefused(int answer) {
        switch (answer) {
            case NO_SUCH_INDEX:
                throw new IndexOutOfBoundsException("there is no such customer or window");
            case BAD_ARGUMENT:
                throw new IllegalArgumentException("an argument is not allowed");
            case BAD_STATE:
                throw new IllegalStateException("the hall does not allow this now");
            case UNSUPPORTED:
                throw new UnsupportedOperationException("no chair or no patience is left");
            case NO_ELEMENT:
                throw new NoSuchElementException("there is no ticket to call");
            default:
                break;
        }
    }

    // Customers

    public int customerCount() {
        return hall.count;
    }

    public int ticket(int customer) throws IndexOutOfBoundsException {
        requireCustomer(customer);
        return hall.customers[customer].ticket;
    }

    public int patience(int customer) throws IndexOutOfBoundsException {
        requireCustomer(customer);
        return hall.customers[customer].patience;
    }

    public int sighs(int customer) throws IndexOutOfBoundsException {
        requireCustomer(customer);
        return hall.customers[customer].sighs;
    }

    public int ache(int customer) throws IndexOutOfBoundsException {
        requireCustomer(customer);
        return hall.customers[customer].ache;
    }

    public int waitingTime(int customer) throws IndexOutOfBoundsException {
        requireCustomer(customer);
        return hall.customers[customer].waited;
    }

    public boolean isCalled(int customer) throws IndexOutOfBoundsException {
        requireCustomer(customer);
        return hall.customers[customer].called;
    }

    public boolean isSitting(int customer) throws IndexOutOfBoundsException {
        requireCustomer(customer);
        return hall.customers[customer].sitting;
    }

    public int position(int customer) throws IndexOutOfBoundsException, NoSuchElementException {
        requireCustomer(customer);
        int position = hall.positionOf(customer);
        if (position == NONE) {
            throw new NoSuchElementException("the customer is at a window");
        }
        return position;
    }

    public int windowOfCustomer(int customer) throws IndexOutOfBoundsException, NoSuchElementException {
        requireCustomer(customer);
        int window = hall.windowOf(customer);
        if (window == NONE) {
            throw new NoSuchElementException("the customer is in the queue");
        }
        return window;
    }

    private void requireCustomer(int customer) {
        if (!hall.hasCustomer(customer)) {
            throw new IndexOutOfBoundsException("there is no such customer");
        }
    }

    // Queue and windows

    public int customerAtPosition(int position) throws IndexOutOfBoundsException {
        if (position < 0 || position >= hall.queued) {
            throw new IndexOutOfBoundsException("the queue has no such position");
        }
        return hall.queue[position];
    }

    public int queueLength() {
        return hall.queued;
    }

    public int openingTimeLeft(int window) throws IndexOutOfBoundsException {
        requireWindow(window);
        return hall.windows[window].openingLeft;
    }

    public int pace(int window) throws IndexOutOfBoundsException, IllegalStateException {
        requireWindow(window);
        if (!hall.windows[window].isOpen()) {
            throw new IllegalStateException("the window is closed");
        }
        return hall.windows[window].minutesPerCustomer;
    }

    public int customerAtWindow(int window) throws IndexOutOfBoundsException, NoSuchElementException {
        requireWindow(window);
        requireSomebodyAt(window);
        return hall.windows[window].customer;
    }

    public int serviceTimeLeft(int window) throws IndexOutOfBoundsException, NoSuchElementException {
        requireWindow(window);
        requireSomebodyAt(window);
        return hall.windows[window].serviceLeft;
    }

    private static void requireWindow(int window) {
        if (!Hall.hasWindow(window)) {
            throw new IndexOutOfBoundsException("there is no such window");
        }
    }

    private void requireSomebodyAt(int window) {
        if (hall.windows[window].customer == NONE) {
            throw new NoSuchElementException("no customer is at the window");
        }
    }

    // Order in the queue

    public int calledAhead(int customer) throws IndexOutOfBoundsException {
        requireCustomer(customer);
        if (hall.windowOf(customer) != NONE) {
            return 0;
        }
        int ahead = 0;
        for (int i = 0; i < hall.queued && hall.queue[i] != customer; i++) {
            if (hall.customers[hall.queue[i]].called) {
                ahead++;
            }
        }
        return ahead;
    }

    public int calledAheadByPositions(int customer) throws IndexOutOfBoundsException {
        requireCustomer(customer);
        int own = hall.positionOf(customer);
        int ahead = 0;
        for (int other = 0; other < hall.count; other++) {
            int position = hall.positionOf(other);
            if (position != NONE && position < own && hall.customers[other].called) {
                ahead++;
            }
        }
        return ahead;
    }

    public int inversions() {
        int inversions = 0;
        for (int front = 0; front < hall.queued; front++) {
            for (int back = front + 1; back < hall.queued; back++) {
                if (hall.ticketAt(front) > hall.ticketAt(back)) {
                    inversions++;
                }
            }
        }
        return inversions;
    }

    public int inversionsByBubbleSort() {
        for (int i = 0; i < hall.queued; i++) {
            sortedTickets[i] = hall.ticketAt(i);
        }
        int swaps = 0;
        for (int end = hall.queued; end > 1; end--) {
            swaps += bubbleUp(end);
        }
        return swaps;
    }

    private int bubbleUp(int end) {
        int swaps = 0;
        for (int i = 1; i < end; i++) {
            int front = sortedTickets[i - 1];
            if (front > sortedTickets[i]) {
                sortedTickets[i - 1] = sortedTickets[i];
                sortedTickets[i] = front;
                swaps++;
            }
        }
        return swaps;
    }

    // Predictions

    public int minutesUntilWindow(int customer) throws IndexOutOfBoundsException, NoSuchElementException {
        requireCustomer(customer);
        int minutes = predictMinutesUntilWindow(customer);
        if (minutes == NONE) {
            throw new NoSuchElementException("the customer does not come to a window in time");
        }
        return minutes;
    }

    private int predictMinutesUntilWindow(int customer) {
        int ticket = hall.customers[customer].ticket;
        trial.copyFrom(hall);
        for (int minutes = 0; minutes <= MAX_PREDICTION; minutes++) {
            int index = trial.customerWithTicket(ticket);
            if (index == NONE) {
                return NONE;
            }
            if (trial.windowOf(index) != NONE) {
                return minutes;
            }
            trial.passMinute();
        }
        return NONE;
    }

    public int patienceAfter(int customer, int minutes)
            throws IndexOutOfBoundsException, IllegalArgumentException, NoSuchElementException {
        requireCustomer(customer);
        requirePredictable(minutes);
        predict(minutes);
        int index = trial.customerWithTicket(hall.customers[customer].ticket);
        if (index == NONE) {
            throw new NoSuchElementException("the customer has left the hall by then");
        }
        return trial.customers[index].patience;
    }

    public int sighsWithin(int minutes) throws IllegalArgumentException {
        requirePredictable(minutes);
        predict(minutes);
        return trial.sighed - hall.sighed;
    }

    private static void requirePredictable(int minutes) {
        if (minutes < 0 || minutes > MAX_PREDICTION) {
            throw new IllegalArgumentException("a prediction reaches 0 to 60 minutes");
        }
    }

    private void predict(int minutes) {
        trial.copyFrom(hall);
        for (int i = 0; i < minutes; i++) {
            trial.passMinute();
        }
    }

    // Statistics

    public int servedTicket(int recency) throws NoSuchElementException {
        requireRemembered(recency);
        return hall.servedTickets[recency];
    }

    public int servedWaitingTime(int recency) throws NoSuchElementException {
        requireRemembered(recency);
        return hall.servedWaits[recency];
    }

    private void requireRemembered(int recency) {
        if (recency < 0 || recency >= Math.min(hall.served, REMEMBERED)) {
            throw new NoSuchElementException("no such served customer is remembered");
        }
    }

    public int customerBySighs(int rank) throws NoSuchElementException {
        requireRank(rank);
        int found = 0;
        for (int customer = 0; customer < hall.count; customer++) {
            if (hall.rankBySighs(customer) == rank) {
                found = customer;
            }
        }
        return found;
    }

    public int customerByWaitingTime(int rank) throws NoSuchElementException {
        requireRank(rank);
        int found = 0;
        for (int customer = 0; customer < hall.count; customer++) {
            if (hall.rankByWaitingTime(customer) == rank) {
                found = customer;
            }
        }
        return found;
    }

    private void requireRank(int rank) {
        if (!hall.hasCustomer(rank)) {
            throw new NoSuchElementException("there is no such rank");
        }
    }

    public int minute() {
        return hall.minutes;
    }

    public int addedTotal() {
        return hall.added;
    }

    public int servedTotal() {
        return hall.served;
    }

    public int walkedOutTotal() {
        return hall.walkedOut;
    }

    public int sighTotal() {
        return hall.sighed;
    }

    public double meanPatience() throws ArithmeticException {
        if (hall.count == 0) {
            throw new ArithmeticException("the hall is empty");
        }
        int sum = 0;
        for (int i = 0; i < hall.count; i++) {
            sum += hall.customers[i].patience;
        }
        return (double) sum / (double) hall.count;
    }

    public float calmShare() throws ArithmeticException {
        if (hall.served == 0) {
            throw new ArithmeticException("no customer has been served");
        }
        return (float) hall.servedCalm / (float) hall.served;
    }

    public boolean isConsistent() {
        for (int i = 0; i < hall.count; i++) {
            boolean inQueue = hall.positionOf(i) != NONE;
            boolean atWindow = hall.windowOf(i) != NONE;
            if (inQueue == atWindow || calledAhead(i) != calledAheadByPositions(i)) {
                return false;
            }
        }
        return inversions() == inversionsByBubbleSort()
                && hall.added == hall.count + hall.served + hall.removed + hall.walkedOut;
    }

    // Output

    public int renderQueue() {
        output.setLength(0);
        for (int i = 0; i < hall.queued; i++) {
            if (i > 0) {
                output.append(' ');
            }
            writeQueued(hall.customers[hall.queue[i]]);
        }
        return output.length();
    }

    private void writeQueued(Customer customer) {
        output.append(customer.ticket);
        if (customer.called) {
            output.append('!');
        }
        if (customer.sitting) {
            output.append('_');
        }
    }

    public int renderWindows() {
        output.setLength(0);
        for (int i = 0; i < WINDOWS; i++) {
            if (i > 0) {
                output.append(' ');
            }
            output.append(i);
            output.append(':');
            writeWindow(hall.windows[i]);
        }
        return output.length();
    }

    private void writeWindow(Window window) {
        if (!window.isOpen()) {
            output.append('x');
        } else if (window.customer == NONE) {
            output.append('-');
        } else {
            output.append(hall.customers[window.customer].ticket);
            output.append('/');
            output.append(window.serviceLeft);
        }
    }

    public char outputAt(int index) throws IndexOutOfBoundsException {
        if (index < 0 || index >= output.length()) {
            throw new IndexOutOfBoundsException("the output text has no such index");
        }
        return output.charAt(index);
    }

    // Scripts

    public int type(char character) throws IllegalArgumentException, IllegalStateException {
        if (character < FIRST_TYPED || character > LAST_TYPED) {
            throw new IllegalArgumentException("this character cannot be typed");
        }
        if (script.text.length() >= SCRIPT_SIZE) {
            throw new IllegalStateException("the script buffer is full");
        }
        script.text.append(character);
        return script.text.length();
    }

    public int runScript() throws IllegalArgumentException, IllegalStateException {
        int commands = script.countCommands();
        if (commands == NONE) {
            latestErrorPosition = script.reached;
            script.text.setLength(0);
            throw new IllegalArgumentException("the script does not have the required form");
        }
        trial.copyFrom(hall);
        int failed = tryCommands(commands);
        script.text.setLength(0);
        if (failed != NONE) {
            latestFailedCommand = failed;
            throw new IllegalStateException("a command of the script failed");
        }
        return commit(commands);
    }

    /** Executes the commands in the trial hall and returns the index of the one that fails, or NONE. */
    private int tryCommands(int commands) {
        int start = 0;
        for (int i = 0; i < commands; i++) {
            Command command = script.commandAt(start);
            if (command == null || perform(command) < 0) {
                return i;
            }
            start = script.reached + 1;
        }
        return NONE;
    }

    private int perform(Command command) {
        int first = script.numbers[0];
        int second = script.numbers[1];
        int third = script.numbers[2];
        switch (command) {
            case ADD:
                return trial.admit(first);
            case OPEN:
                return trial.open(first, second, third);
            case CLOSE:
                return trial.close(first);
            case CALL:
                return trial.callLowestTicket();
            case SWAP:
                return trial.exchange(first, second);
            case SIT:
                return trial.seat(first);
            case STAND:
                return trial.unseat(first);
            case REMOVE:
                return trial.dismiss(first);
            case ADVANCE:
                return trial.pass(first);
            case ADVANCE_ONE:
                return trial.pass(1);
            default:
                return BAD_STATE;
        }
    }

    public int errorPosition() throws NoSuchElementException {
        if (latestErrorPosition == NONE) {
            throw new NoSuchElementException("every script had the required form");
        }
        return latestErrorPosition;
    }

    public int failedCommand() throws NoSuchElementException {
        if (latestFailedCommand == NONE) {
            throw new NoSuchElementException("no command of a script failed");
        }
        return latestFailedCommand;
    }

    // Undo and snapshot

    public int undo() throws NoSuchElementException {
        if (undoable == 0) {
            throw new NoSuchElementException("there is nothing to undo");
        }
        undoable--;
        Hall undone = hall;
        hall = history[undoable];
        history[undoable] = undone;
        return undoable;
    }

    public int save() {
        snapshot.copyFrom(hall);
        hasSnapshot = true;
        return hall.count;
    }

    public int restore() throws IllegalStateException {
        if (!hasSnapshot) {
            throw new IllegalStateException("there is no snapshot");
        }
        hall.copyFrom(snapshot);
        undoable = 0;
        return hall.count;
    }

    /** One customer of the hall. */
    private static final class Customer {
        int ticket;
        int patience;
        int sighs;
        int ache;
        int waited;
        boolean called;
        boolean sitting;

        void arrive(int newTicket, int newPatience) {
            ticket = newTicket;
            patience = newPatience;
            sighs = 0;
            ache = 0;
            waited = 0;
            called = false;
            sitting = false;
        }

        void copyFrom(Customer other) {
            ticket = other.ticket;
            patience = other.patience;
            sighs = other.sighs;
            ache = other.ache;
            waited = other.waited;
            called = other.called;
            sitting = other.sitting;
        }

        /** Spends a minute in the queue and returns whether the customer sighs in it. */
        boolean sighsInMinute() {
            waited++;
            if (sitting) {
                ache = Math.min(ache + 1, MAX_ACHE);
                sitting = ache < MAX_ACHE;
                return false;
            }
            ache = Math.max(ache - 1, 0);
            patience = Math.max(patience - 1, 0);
            if (patience > 0) {
                return false;
            }
            sighs++;
            return true;
        }

        boolean sighsBefore(Customer later) {
            if (sighs != later.sighs) {
                return sighs > later.sighs;
            }
            return patience < later.patience;
        }

        boolean waitsBefore(Customer later) {
            if (waited != later.waited) {
                return waited > later.waited;
            }
            return !called && later.called;
        }
    }

    /** One service window; it is open as long as it has opening time left. */
    private static final class Window {
        int openingLeft;
        int minutesPerCustomer;
        int customer = NONE;
        int serviceLeft;

        boolean isOpen() {
            return openingLeft > 0;
        }

        void copyFrom(Window other) {
            openingLeft = other.openingLeft;
            minutesPerCustomer = other.minutesPerCustomer;
            customer = other.customer;
            serviceLeft = other.serviceLeft;
        }
    }

    /** Everything that undo and the snapshot cover, and the rules by which it changes. */
    private static final class Hall {
        /** In order of arrival; the places from count on hold objects to be used again. */
        final Customer[] customers;
        int count;
        /** Indices of customers, from the front. */
        final int[] queue;
        int queued;
        final Window[] windows;
        /** The latest served customers, the last one first. */
        final int[] servedTickets;
        final int[] servedWaits;
        int minutes;
        int added;
        int served;
        int servedCalm;
        int walkedOut;
        int removed;
        int sighed;

        Hall() {
            customers = new Customer[MAX_CUSTOMERS];
            for (int i = 0; i < MAX_CUSTOMERS; i++) {
                customers[i] = new Customer();
            }
            windows = new Window[WINDOWS];
            for (int i = 0; i < WINDOWS; i++) {
                windows[i] = new Window();
            }
            queue = new int[MAX_CUSTOMERS];
            servedTickets = new int[REMEMBERED];
            servedWaits = new int[REMEMBERED];
        }

        void copyFrom(Hall other) {
            for (int i = 0; i < MAX_CUSTOMERS; i++) {
                customers[i].copyFrom(other.customers[i]);
                queue[i] = other.queue[i];
            }
            for (int i = 0; i < WINDOWS; i++) {
                windows[i].copyFrom(other.windows[i]);
            }
            for (int i = 0; i < REMEMBERED; i++) {
                servedTickets[i] = other.servedTickets[i];
                servedWaits[i] = other.servedWaits[i];
            }
            count = other.count;
            queued = other.queued;
            minutes = other.minutes;
            added = other.added;
            served = other.served;
            servedCalm = other.servedCalm;
            walkedOut = other.walkedOut;
            removed = other.removed;
            sighed = other.sighed;
        }

        boolean hasCustomer(int index) {
            return index >= 0 && index < count;
        }

        static boolean hasWindow(int index) {
            return index >= 0 && index < WINDOWS;
        }

        int positionOf(int customer) {
            for (int i = 0; i < queued; i++) {
                if (queue[i] == customer) {
                    return i;
                }
            }
            return NONE;
        }

        int windowOf(int customer) {
            for (int i = 0; i < WINDOWS; i++) {
                if (windows[i].customer == customer) {
                    return i;
                }
            }
            return NONE;
        }

        int ticketAt(int position) {
            return customers[queue[position]].ticket;
        }

        int customerWithTicket(int ticket) {
            for (int i = 0; i < count; i++) {
                if (customers[i].ticket == ticket) {
                    return i;
                }
            }
            return NONE;
        }

        int rankBySighs(int customer) {
            int rank = 0;
            for (int i = 0; i < count; i++) {
                boolean tied = !customers[customer].sighsBefore(customers[i]);
                if (customers[i].sighsBefore(customers[customer]) || (tied && i < customer)) {
                    rank++;
                }
            }
            return rank;
        }

        int rankByWaitingTime(int customer) {
            int rank = 0;
            for (int i = 0; i < count; i++) {
                boolean tied = !customers[customer].waitsBefore(customers[i]);
                if (customers[i].waitsBefore(customers[customer]) || (tied && i < customer)) {
                    rank++;
                }
            }
            return rank;
        }

        int countOpenWindows() {
            int open = 0;
            for (int i = 0; i < WINDOWS; i++) {
                if (windows[i].isOpen()) {
                    open++;
                }
            }
            return open;
        }

        int countSitting() {
            int sitting = 0;
            for (int i = 0; i < count; i++) {
                if (customers[i].sitting) {
                    sitting++;
                }
            }
            return sitting;
        }

        int admit(int patience) {
            if (patience < 1 || patience > MAX_PATIENCE) {
                return BAD_ARGUMENT;
            }
            if (count >= MAX_CUSTOMERS || queued >= MAX_CUSTOMERS) {
                return BAD_STATE;
            }
            added++;
            customers[count].arrive(added, patience);
            queue[queued] = count;
            queued++;
            count++;
            return count - 1;
        }

        int open(int window, int minutes, int pace) {
            if (!hasWindow(window)) {
                return NO_SUCH_INDEX;
            }
            if (minutes < 1 || minutes > MAX_OPENING_TIME || pace < 1 || pace > MAX_PACE) {
                return BAD_ARGUMENT;
            }
            if (windows[window].isOpen()) {
                return BAD_STATE;
            }
            windows[window].openingLeft = minutes;
            windows[window].minutesPerCustomer = pace;
            return countOpenWindows();
        }

        int close(int window) {
            if (!hasWindow(window)) {
                return NO_SUCH_INDEX;
            }
            if (!windows[window].isOpen()) {
                return BAD_STATE;
            }
            shut(windows[window]);
            return countOpenWindows();
        }

        int callLowestTicket() {
            // Customers stand in order of arrival, so the first one found has the lowest ticket.
            for (int i = 0; i < count; i++) {
                if (!customers[i].called) {
                    customers[i].called = true;
                    return customers[i].ticket;
                }
            }
            return NO_ELEMENT;
        }

        int exchange(int first, int second) {
            if (!hasCustomer(first) || !hasCustomer(second)) {
                return NO_SUCH_INDEX;
            }
            if (first == second) {
                return BAD_ARGUMENT;
            }
            int firstPosition = positionOf(first);
            int secondPosition = positionOf(second);
            if (firstPosition == NONE || secondPosition == NONE) {
                return BAD_STATE;
            }
            Customer movingBack = customers[firstPosition < secondPosition ? first : second];
            if (movingBack.patience < SWAP_COST) {
                return UNSUPPORTED;
            }
            movingBack.patience -= SWAP_COST;
            queue[firstPosition] = second;
            queue[secondPosition] = first;
            return Math.abs(firstPosition - secondPosition);
        }

        int seat(int customer) {
            if (!hasCustomer(customer)) {
                return NO_SUCH_INDEX;
            }
            if (windowOf(customer) != NONE || customers[customer].sitting) {
                return BAD_STATE;
            }
            if (countSitting() >= CHAIRS) {
                return UNSUPPORTED;
            }
            customers[customer].sitting = true;
            return countSitting();
        }

        int unseat(int customer) {
            if (!hasCustomer(customer)) {
                return NO_SUCH_INDEX;
            }
            if (!customers[customer].sitting) {
                return BAD_STATE;
            }
            customers[customer].sitting = false;
            return countSitting();
        }

        int dismiss(int customer) {
            if (!hasCustomer(customer)) {
                return NO_SUCH_INDEX;
            }
            removed++;
            leave(customer);
            return count;
        }

        int pass(int duration) {
            if (duration < 1 || duration > MAX_ADVANCE) {
                return BAD_ARGUMENT;
            }
            int servedBefore = served;
            for (int i = 0; i < duration; i++) {
                passMinute();
            }
            return served - servedBefore;
        }

        void passMinute() {
            for (int i = 0; i < WINDOWS; i++) {
                if (windows[i].isOpen()) {
                    work(windows[i]);
                }
            }
            waitInQueue();
            for (int i = 0; i < WINDOWS; i++) {
                if (windows[i].isOpen() && windows[i].customer == NONE) {
                    fill(windows[i]);
                }
            }
            minutes++;
        }

        private void work(Window window) {
            if (window.customer != NONE) {
                window.serviceLeft--;
                if (window.serviceLeft == 0) {
                    recordServed(customers[window.customer]);
                    leave(window.customer);
                }
            }
            window.openingLeft--;
            if (window.openingLeft == 0) {
                shut(window);
            }
        }

        private void recordServed(Customer customer) {
            for (int i = REMEMBERED - 1; i > 0; i--) {
                servedTickets[i] = servedTickets[i - 1];
                servedWaits[i] = servedWaits[i - 1];
            }
            servedTickets[0] = customer.ticket;
            servedWaits[0] = customer.waited;
            served++;
            if (customer.sighs == 0) {
                servedCalm++;
            }
        }

        private void shut(Window window) {
            window.openingLeft = 0;
            if (window.customer != NONE) {
                queueInFront(window.customer);
                window.customer = NONE;
            }
        }

        private void waitInQueue() {
            int waiting = queued;
            int position = 0;
            for (int i = 0; i < waiting; i++) {
                int customer = queue[position];
                if (customers[customer].sighsInMinute()) {
                    sighed++;
                }
                if (customers[customer].sighs >= SIGHS_TO_WALK_OUT) {
                    walkedOut++;
                    leave(customer);
                } else {
                    position++;
                }
            }
        }

        private void fill(Window window) {
            for (int i = 0; i < queued; i++) {
                Customer customer = customers[queue[i]];
                if (customer.called) {
                    customer.sitting = false;
                    window.customer = queue[i];
                    window.serviceLeft = window.minutesPerCustomer;
                    takeFromQueue(i);
                    return;
                }
            }
        }

        private void queueInFront(int customer) {
            if (queued >= MAX_CUSTOMERS) {
                return;
            }
            for (int i = queued; i > 0; i--) {
                queue[i] = queue[i - 1];
            }
            queue[0] = customer;
            queued++;
        }

        private void takeFromQueue(int position) {
            for (int i = position + 1; i < queued; i++) {
                queue[i - 1] = queue[i];
            }
            queued--;
        }

        private void leave(int customer) {
            int position = positionOf(customer);
            if (position != NONE) {
                takeFromQueue(position);
            }
            int window = windowOf(customer);
            if (window != NONE) {
                windows[window].customer = NONE;
            }
            Customer gone = customers[customer];
            for (int i = customer + 1; i < count; i++) {
                customers[i - 1] = customers[i];
            }
            count--;
            customers[count] = gone;
            renumberAfter(customer);
        }

        private void renumberAfter(int customer) {
            for (int i = 0; i < queued; i++) {
                if (queue[i] > customer) {
                    queue[i]--;
                }
            }
            for (int i = 0; i < WINDOWS; i++) {
                if (windows[i].customer > customer) {
                    windows[i].customer--;
                }
            }
        }
    }

    /** The commands of the script language, each with its form. */
    private enum Command {
        ADD("add #"),
        OPEN("open % # %"),
        CLOSE("close %"),
        CALL("call"),
        SWAP("swap # #"),
        SIT("sit #"),
        STAND("stand #"),
        REMOVE("remove #"),
        ADVANCE("advance #"),
        ADVANCE_ONE("advance");

        final String form;

        Command(String form) {
            this.form = form;
        }
    }

    /** The script buffer and its reader. */
    private static final class Script {
        final StringBuilder text = new StringBuilder();
        /** The numbers of the command that was read last. */
        final int[] numbers = new int[MAX_NUMBERS];
        /** The end of the command that was read last, or where its reading got stuck. */
        int reached;

        /** Returns the number of commands, or NONE, with the error position reached, if the form is wrong. */
        int countCommands() {
            int start = 0;
            for (int commands = 1; commands <= SCRIPT_SIZE; commands++) {
                if (commandAt(start) == null) {
                    return NONE;
                }
                if (reached >= text.length()) {
                    return commands;
                }
                start = reached + 1;
            }
            return NONE;
        }

        /** Reads the command at this index; null stands for none. */
        Command commandAt(int start) {
            // A prefix that any command can continue is fine, so the furthest attempt counts.
            int furthest = start;
            for (Command command : COMMANDS) {
                if (matches(command.form, start)) {
                    return command;
                }
                furthest = Math.max(furthest, reached);
            }
            reached = furthest;
            return null;
        }

        private boolean matches(String form, int start) {
            reached = start;
            int found = 0;
            for (int i = 0; i < form.length(); i++) {
                char sign = form.charAt(i);
                boolean fits;
                if (sign == NUMBER || sign == ONE_DIGIT) {
                    fits = readNumber(found, sign == NUMBER ? 2 : 1);
                    found++;
                } else {
                    fits = readSign(sign);
                }
                if (!fits) {
                    return false;
                }
            }
            return reached >= text.length() || text.charAt(reached) == ';';
        }

        private boolean readSign(char sign) {
            if (reached >= text.length() || text.charAt(reached) != sign) {
                return false;
            }
            reached++;
            return true;
        }

        private boolean readNumber(int place, int maxDigits) {
            if (place >= MAX_NUMBERS || !isDigitAhead()) {
                return false;
            }
            int number = 0;
            for (int i = 0; i < maxDigits && isDigitAhead(); i++) {
                number = number * 10 + (text.charAt(reached) - '0');
                reached++;
            }
            numbers[place] = number;
            return true;
        }

        private boolean isDigitAhead() {
            return reached < text.length() && text.charAt(reached) >= '0' && text.charAt(reached) <= '9';
        }
    }
}
