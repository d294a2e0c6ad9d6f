import java.util.NoSuchElementException;

/** The boundary cases of the sections "What it is" and "Terms", but for "Scripts" and "Changes". */
final class TermsEdgesTest {
    private TermsEdgesTest() {
    }

    static void run() {
        calls();
        places();
        indices();
        tickets();
        values();
        queue();
        chairs();
        windows();
        service();
        closingTime();
        waiting();
        sitting();
        walkingOut();
        filling();
        counter();
        inversions();
    }

    private static void calls() {
        Runs.check("""
            # what it is: the 512th call is answered as the first one
            511 * advance 20
            minute -> 10220
            # what it is: 512 calls, of which 510 are a customer who comes and goes
            255 * addCustomer 30 / remove 0
            addCustomer 30 -> 0
            ticket 0 -> 256
            """);
        WaitingRoomSimulation room = new WaitingRoomSimulation();
        for (int i = 0; i < 511; i++) {
            Check.refuses("what it is: refused call " + i, NoSuchElementException.class, room::callNext);
        }
        Check.same("what it is: the call after 511 refused ones", room.addCustomer(30), 0);
    }

    private static void places() {
        Runs.check("""
            # customers: at most 12 customers are in the hall
            11 * addCustomer 30 -> 10
            customerCount -> 11
            addCustomer 30 -> 11
            customerCount -> 12
            addCustomer 30 -> throws.IllegalStateException
            customerCount -> 12
            # customers: those at windows are in the hall
            12 * addCustomer 30
            3 * callNext
            openWindow 0 9 9
            openWindow 1 9 9
            openWindow 2 9 9
            advance 1
            queueLength -> 9
            customerCount -> 12
            addCustomer 30 -> throws.IllegalStateException
            # customers: at the same time, so that a removed customer leaves a place
            12 * addCustomer 30
            remove 0 -> 11
            addCustomer 30 -> 11
            addCustomer 30 -> throws.IllegalStateException
            # customers: at the same time, so that a served customer leaves a place
            12 * addCustomer 30
            callNext -> 1
            openWindow 0 9 1
            advance 1 -> 0
            addCustomer 30 -> throws.IllegalStateException
            advance 1 -> 1
            addCustomer 30 -> 11
            addCustomer 30 -> throws.IllegalStateException
            # customers: at the same time, so that a customer who walks out leaves a place
            11 * addCustomer 30
            addCustomer 1 -> 11
            advance 2
            addCustomer 30 -> throws.IllegalStateException
            advance 1
            customerCount -> 11
            addCustomer 30 -> 11
            addCustomer 30 -> throws.IllegalStateException
            # customers: every customer is either in the queue or at a window
            3 * addCustomer 30
            callNext
            openWindow 1 9 9
            advance 1
            position 0 -> throws.NoSuchElementException
            windowOfCustomer 0 -> 1
            position 1 -> 0
            windowOfCustomer 1 -> throws.NoSuchElementException
            position 2 -> 1
            windowOfCustomer 2 -> throws.NoSuchElementException
            isConsistent -> true
            closeWindow 1
            position 0 -> 0
            windowOfCustomer 0 -> throws.NoSuchElementException
            isConsistent -> true
            """);
    }

    private static void indices() {
        Runs.check("""
            # customers: the indices 0 to n - 1 in order of arrival, whatever the order of the queue
            addCustomer 10 -> 0
            addCustomer 11 -> 1
            addCustomer 12 -> 2
            swap 0 2 -> 2
            queue -> 3 2 1
            ticket 0 -> 1
            ticket 1 -> 2
            ticket 2 -> 3
            ticket 3 -> throws.IndexOutOfBoundsException
            # customers: the first one leaves, all indices decrease
            4 * addCustomer 30
            remove 0 -> 3
            ticket 0 -> 2
            ticket 1 -> 3
            ticket 2 -> 4
            ticket 3 -> throws.IndexOutOfBoundsException
            customerAtPosition 0 -> 0
            customerAtPosition 1 -> 1
            customerAtPosition 2 -> 2
            # customers: one in the middle leaves, only later indices decrease
            4 * addCustomer 30
            swap 0 3
            queue -> 4 2 3 1
            remove 1 -> 3
            ticket 0 -> 1
            ticket 1 -> 3
            ticket 2 -> 4
            customerAtPosition 0 -> 2
            customerAtPosition 1 -> 1
            customerAtPosition 2 -> 0
            # customers: the last one leaves, no index changes
            4 * addCustomer 30
            remove 3 -> 3
            ticket 0 -> 1
            ticket 1 -> 2
            ticket 2 -> 3
            ticket 3 -> throws.IndexOutOfBoundsException
            # customers: the index decreases when an earlier customer is served, at windows too
            5 * addCustomer 30
            3 * callNext
            openWindow 0 99 1
            openWindow 1 99 9
            openWindow 2 99 9
            advance 1
            windows -> 0:1/1 1:2/9 2:3/9
            customerAtWindow 2 -> 2
            advance 1 -> 1
            customerAtWindow 0 -> throws.NoSuchElementException
            customerAtWindow 1 -> 0
            customerAtWindow 2 -> 1
            customerAtPosition 0 -> 2
            customerAtPosition 1 -> 3
            # customers: the index decreases when an earlier customer walks out
            addCustomer 30
            addCustomer 1
            addCustomer 30
            callNext
            openWindow 2 9 9
            advance 3
            customerCount -> 2
            ticket 0 -> 1
            ticket 1 -> 3
            customerAtWindow 2 -> 0
            customerAtPosition 0 -> 1
            """);
    }

    private static void tickets() {
        Runs.check("""
            # customers: tickets are numbered 1, 2, 3 in order of arrival
            addCustomer 30
            ticket 0 -> 1
            addCustomer 30
            ticket 1 -> 2
            addCustomer 30
            ticket 2 -> 3
            # customers: no number is used twice, not that of the last one
            2 * addCustomer 30
            remove 1 -> 1
            addCustomer 30 -> 1
            ticket 1 -> 3
            # customers: no number is used twice, not in a hall that was empty
            addCustomer 30
            remove 0 -> 0
            addCustomer 30 -> 0
            ticket 0 -> 2
            # customers: no number is used twice, not that of a served customer
            addCustomer 30
            callNext
            openWindow 0 9 1
            advance 2 -> 1
            addCustomer 30 -> 0
            ticket 0 -> 2
            # customers: no number is used twice, not that of a customer who walked out
            addCustomer 1
            advance 3
            addCustomer 30 -> 0
            ticket 0 -> 2
            # customers: a refused customer takes no number
            addCustomer 0 -> throws.IllegalArgumentException
            addCustomer 31 -> throws.IllegalArgumentException
            12 * addCustomer 30
            addCustomer 30 -> throws.IllegalStateException
            remove 11
            addCustomer 30 -> 11
            ticket 0 -> 1
            ticket 11 -> 13
            """);
    }

    private static void values() {
        Runs.check("""
            # customers: sighs, ache and waiting time are 0 initially
            addCustomer 30
            addCustomer 1
            customer 0 -> ticket 1 patience 30 sighs 0 ache 0 waited 0 position 0
            customer 1 -> ticket 2 patience 1 sighs 0 ache 0 waited 0 position 1
            # customers: also where another customer has left the hall
            12 * addCustomer 3
            4 * callNext
            sit 11
            advance 4
            remove 11 -> 11
            addCustomer 7 -> 11
            customer 11 -> ticket 13 patience 7 sighs 0 ache 0 waited 0 position 11
            # customers: also where the one before had sighed and walked out, or was removed
            addCustomer 1
            advance 3
            addCustomer 9 -> 0
            customer 0 -> ticket 2 patience 9 sighs 0 ache 0 waited 0 position 0
            remove 0
            addCustomer 1
            advance 2
            remove 0
            addCustomer 9 -> 0
            customer 0 -> ticket 4 patience 9 sighs 0 ache 0 waited 0 position 0
            # customers: a patience of 0 to 30
            addCustomer 30
            patience 0 -> 30
            2 * advance 15
            patience 0 -> 0
            sighs 0 -> 1
            advance 1
            patience 0 -> 0
            # customers: a waiting time has no limit, if a customer sits down each minute
            addCustomer 1
            sit 0
            advance 6
            40 * sit 0 / advance 1
            customer 0 -> ticket 1 patience 1 sighs 0 ache 6 waited 46 position 0
            60 * sit 0 / advance 1
            waitingTime 0 -> 106
            # customers: an ache of 0 to 6
            addCustomer 30
            sit 0
            advance 6
            ache 0 -> 6
            standUp 0 -> throws.IllegalStateException
            sit 0
            advance 1
            ache 0 -> 6
            advance 6
            ache 0 -> 0
            advance 1
            ache 0 -> 0
            """);
    }

    private static void queue() {
        Runs.check("""
            # queue: a new customer joins the empty queue
            addCustomer 30
            position 0 -> 0
            queueLength -> 1
            # queue: a new customer joins at the end, behind those who came back from a window
            2 * addCustomer 30
            callNext
            openWindow 0 2 9
            advance 1
            addCustomer 30
            advance 1
            addCustomer 30
            queue -> 1! 2 3 4
            # queue: a new customer joins at the end, the twelfth too
            11 * addCustomer 30
            swap 0 10
            addCustomer 30
            position 11 -> 11
            queue -> 11 2 3 4 5 6 7 8 9 10 1 12
            # queue: positions are counted from 0, the front
            3 * addCustomer 30
            position 0 -> 0
            position 1 -> 1
            position 2 -> 2
            # queue: a new ticket is not called, even if all others are
            11 * addCustomer 30
            11 * callNext
            addCustomer 30 -> 11
            isCalled 10 -> true
            isCalled 11 -> false
            callNext -> 12
            isCalled 11 -> true
            # queue: a called ticket stays called
            2 * addCustomer 30
            callNext -> 1
            sit 0
            isCalled 0 -> true
            standUp 0
            isCalled 0 -> true
            swap 0 1
            isCalled 0 -> true
            isCalled 1 -> false
            advance 1
            isCalled 0 -> true
            openWindow 0 9 9
            advance 1
            isCalled 0 -> true
            closeWindow 0
            isCalled 0 -> true
            # queue: only customers with called tickets move to a window, here none
            12 * addCustomer 30
            openWindow 0 99 9
            openWindow 1 99 9
            openWindow 2 99 9
            advance 5 -> 0
            queueLength -> 12
            windows -> 0:- 1:- 2:-
            # queue: only customers with called tickets move to a window, here the last one
            12 * addCustomer 30
            swap 0 11
            callNext -> 1
            openWindow 0 99 9
            openWindow 1 99 9
            openWindow 2 99 9
            advance 1
            queue -> 12 2 3 4 5 6 7 8 9 10 11
            windows -> 0:1/9 1:- 2:-
            """);
    }

    private static void chairs() {
        Runs.check("""
            # chairs: the hall has 4 chairs
            5 * addCustomer 30
            sit 0 -> 1
            sit 1 -> 2
            sit 2 -> 3
            sit 3 -> 4
            sit 4 -> throws.UnsupportedOperationException
            standUp 1 -> 3
            sit 4 -> 4
            sit 1 -> throws.UnsupportedOperationException
            # chairs: a new customer stands, also with the index of one who sat
            2 * addCustomer 30
            sit 1
            remove 1
            addCustomer 30 -> 1
            isSitting 1 -> false
            sit 1 -> 1
            # chairs: a customer at a window stands and leaves a chair
            5 * addCustomer 30
            sit 0
            sit 1
            sit 2
            sit 3
            callNext
            openWindow 0 9 9
            sit 4 -> throws.UnsupportedOperationException
            advance 1
            isSitting 0 -> false
            sit 4 -> 4
            closeWindow 0
            isSitting 0 -> false
            sit 0 -> throws.UnsupportedOperationException
            # chairs: four customers with ache 6 leave all chairs in the same minute
            8 * addCustomer 30
            sit 0
            sit 1
            sit 2
            sit 3
            advance 5
            sit 4 -> throws.UnsupportedOperationException
            advance 1
            sit 4 -> 1
            sit 5 -> 2
            sit 6 -> 3
            sit 7 -> 4
            sit 0 -> throws.UnsupportedOperationException
            """);
    }

    private static void windows() {
        Runs.check("""
            # windows: the indices 0 to 2, initially closed
            windows -> 0:x 1:x 2:x
            openingTimeLeft -1 -> throws.IndexOutOfBoundsException
            openingTimeLeft 0 -> 0
            openingTimeLeft 1 -> 0
            openingTimeLeft 2 -> 0
            openingTimeLeft 3 -> throws.IndexOutOfBoundsException
            # windows: a remaining opening time and a pace
            openWindow 0 99 1
            openWindow 1 1 9
            openWindow 2 50 5
            openingTimeLeft 0 -> 99
            openingTimeLeft 1 -> 1
            openingTimeLeft 2 -> 50
            pace 0 -> 1
            pace 1 -> 9
            pace 2 -> 5
            # windows: at most one customer is at a window
            3 * addCustomer 30
            3 * callNext
            openWindow 1 99 9
            advance 9
            windows -> 0:x 1:1/1 2:x
            queue -> 2! 3!
            advance 1 -> 1
            windows -> 0:x 1:2/9 2:x
            queue -> 3!
            """);
    }

    private static void service() {
        Runs.check("""
            # minute, step 1: the remaining service time decreases by 1, and at 0 the customer leaves the hall
            addCustomer 30
            callNext
            openWindow 0 99 2
            advance 1 -> 0
            serviceTimeLeft 0 -> 2
            advance 1 -> 0
            serviceTimeLeft 0 -> 1
            customerCount -> 1
            advance 1 -> 1
            customerCount -> 0
            customerAtWindow 0 -> throws.NoSuchElementException
            serviceTimeLeft 0 -> throws.NoSuchElementException
            openingTimeLeft 0 -> 96
            # minute, step 1: served after one minute with pace 1
            addCustomer 30
            callNext
            openWindow 2 99 1
            advance 1 -> 0
            windows -> 0:x 1:x 2:1/1
            advance 1 -> 1
            windows -> 0:x 1:x 2:-
            # minute, step 1: served after nine minutes with pace 9
            addCustomer 30
            callNext
            openWindow 1 99 9
            advance 9 -> 0
            windows -> 0:x 1:1/1 2:x
            advance 1 -> 1
            windows -> 0:x 1:- 2:x
            # minute, step 1: windows are processed in index order, so the customer of window 0 is served first
            3 * addCustomer 30
            swap 0 2
            3 * callNext
            openWindow 0 99 2
            openWindow 1 99 2
            openWindow 2 99 2
            advance 1
            windows -> 0:3/2 1:2/2 2:1/2
            advance 2 -> 3
            servedTicket 0 -> 1
            servedTicket 1 -> 2
            servedTicket 2 -> 3
            customerCount -> 0
            # minute, step 1: the opening time decreases for a window without a customer
            openWindow 1 2 1
            advance 1
            openingTimeLeft 1 -> 1
            pace 1 -> 1
            # minute, step 1: a closed window is not processed
            advance 1
            openingTimeLeft 0 -> 0
            openWindow 0 1 1 -> 1
            """);
    }

    private static void closingTime() {
        Runs.check("""
            # minute, step 1: at opening time 0 the window closes
            openWindow 1 2 1
            advance 1
            windows -> 0:x 1:- 2:x
            advance 1
            windows -> 0:x 1:x 2:x
            openingTimeLeft 1 -> 0
            pace 1 -> throws.IllegalStateException
            advance 1
            openingTimeLeft 1 -> 0
            openWindow 1 5 5 -> 1
            # minute, step 1: a customer who is still there moves to the front of the queue
            4 * addCustomer 30
            callNext
            openWindow 0 2 9
            advance 1
            queue -> 2 3 4
            advance 1
            queue -> 1! 2 3 4
            position 0 -> 0
            windowOfCustomer 0 -> throws.NoSuchElementException
            # minute, step 1: the customer moves to an empty queue
            addCustomer 30
            callNext
            openWindow 0 2 9
            advance 1
            queueLength -> 0
            advance 1
            queue -> 1!
            # minute, step 1: a customer served in the last minute of the window does not move to the queue
            addCustomer 30
            callNext
            openWindow 0 3 2
            advance 2
            windows -> 0:1/1 1:x 2:x
            openingTimeLeft 0 -> 1
            advance 1 -> 1
            windows -> 0:x 1:x 2:x
            customerCount -> 0
            # minute, step 1: one minute of service is missing when the window closes
            addCustomer 30
            callNext
            openWindow 0 2 2
            advance 1
            windows -> 0:1/2 1:x 2:x
            advance 1 -> 0
            windows -> 0:x 1:x 2:x
            servedTotal -> 0
            customer 0 -> ticket 1 patience 28 sighs 0 ache 0 waited 2 position 0 called
            # minute, step 1: the windows close in index order, so the customer of window 2 is in front
            12 * addCustomer 30
            3 * callNext
            openWindow 0 2 9
            openWindow 1 2 9
            openWindow 2 2 9
            advance 1
            queueLength -> 9
            advance 1
            queue -> 3! 2! 1! 4 5 6 7 8 9 10 11 12
            queueLength -> 12
            # minute, step 1: a window open for one minute closes before anybody can go there
            addCustomer 30
            callNext
            openWindow 0 1 1
            advance 1 -> 0
            queue -> 1!
            windows -> 0:x 1:x 2:x
            # minute, step 1: a window open for two minutes can be reached, not more
            addCustomer 30
            callNext
            openWindow 0 2 1
            advance 1 -> 0
            windows -> 0:1/1 1:x 2:x
            advance 1 -> 1
            windows -> 0:x 1:x 2:x
            # minute, step 1: 99 minutes of opening time
            openWindow 0 99 1
            4 * advance 20
            advance 18
            openingTimeLeft 0 -> 1
            advance 1
            openingTimeLeft 0 -> 0
            pace 0 -> throws.IllegalStateException
            # minute, step 1 and 3: from a window that closes to another one in the same minute, served anew
            addCustomer 30
            callNext
            openWindow 1 3 5
            advance 2
            windows -> 0:x 1:1/4 2:x
            openWindow 0 9 7
            advance 1
            windows -> 0:1/7 1:x 2:x
            waitingTime 0 -> 2
            """);
    }

    private static void waiting() {
        Runs.check("""
            # minute, step 2: the waiting time increases by 1 for each customer in the queue
            12 * addCustomer 30
            sit 11
            advance 1
            waitingTime 0 -> 1
            waitingTime 10 -> 1
            waitingTime 11 -> 1
            # minute, step 2: nothing happens to a customer at a window
            addCustomer 30
            callNext
            openWindow 0 99 9
            advance 1
            customer 0 -> ticket 1 patience 29 sighs 0 ache 0 waited 1 window 0 called
            advance 8
            customer 0 -> ticket 1 patience 29 sighs 0 ache 0 waited 1 window 0 called
            # minute, step 2: who comes from a window that closes is in the queue at the beginning of this step
            addCustomer 30
            callNext
            openWindow 0 5 9
            advance 4
            customer 0 -> ticket 1 patience 29 sighs 0 ache 0 waited 1 window 0 called
            advance 1
            customer 0 -> ticket 1 patience 28 sighs 0 ache 0 waited 2 position 0 called
            # minute, step 2: who goes to a window in this minute has waited before
            addCustomer 1
            callNext
            openWindow 0 9 9
            advance 1
            customer 0 -> ticket 1 patience 0 sighs 1 ache 0 waited 1 window 0 called
            # minute, step 2: standing, the patience decreases by 1, and the customer sighs if it is 0 then
            addCustomer 2
            advance 1
            customer 0 -> ticket 1 patience 1 sighs 0 ache 0 waited 1 position 0
            advance 1
            customer 0 -> ticket 1 patience 0 sighs 1 ache 0 waited 2 position 0
            sighTotal -> 1
            # minute, step 2: the patience does not go below 0, and the customer sighs again
            addCustomer 2
            advance 3
            customer 0 -> ticket 1 patience 0 sighs 2 ache 0 waited 3 position 0
            sighTotal -> 2
            # minute, step 2: a patience that is 0 from a swap makes a sigh in the next minute only
            addCustomer 2
            addCustomer 30
            swap 0 1 -> 1
            customer 0 -> ticket 1 patience 0 sighs 0 ache 0 waited 0 position 1
            advance 1
            customer 0 -> ticket 1 patience 0 sighs 1 ache 0 waited 1 position 1
            """);
    }

    private static void sitting() {
        Runs.check("""
            # minute, step 2: sitting, the ache increases by 1 and nothing else happens
            addCustomer 1
            sit 0
            advance 1
            customer 0 -> ticket 1 patience 1 sighs 0 ache 1 waited 1 position 0 sits
            advance 4
            customer 0 -> ticket 1 patience 1 sighs 0 ache 5 waited 5 position 0 sits
            # minute, step 2: if the ache is 6 then, the customer stands up; nothing else happens in this step
            addCustomer 1
            sit 0
            advance 6
            customer 0 -> ticket 1 patience 1 sighs 0 ache 6 waited 6 position 0
            # minute, step 2: the ache does not go above 6, and the customer stands up at once
            addCustomer 1
            sit 0
            advance 6
            sit 0 -> 1
            customer 0 -> ticket 1 patience 1 sighs 0 ache 6 waited 6 position 0 sits
            advance 1
            customer 0 -> ticket 1 patience 1 sighs 0 ache 6 waited 7 position 0
            # minute, step 2: from ache 5 to 6 the customer stands up too
            addCustomer 9
            sit 0
            advance 7
            customer 0 -> ticket 1 patience 8 sighs 0 ache 5 waited 7 position 0
            sit 0
            advance 1
            customer 0 -> ticket 1 patience 8 sighs 0 ache 6 waited 8 position 0
            # minute, step 2: standing, the ache decreases by 1 but not below 0
            addCustomer 30
            sit 0
            advance 2
            standUp 0
            ache 0 -> 2
            advance 1
            ache 0 -> 1
            advance 1
            ache 0 -> 0
            advance 1
            ache 0 -> 0
            # minute, step 2: a customer with patience 0 who sits does not sigh
            addCustomer 1
            advance 2
            sit 0
            advance 6
            customer 0 -> ticket 1 patience 0 sighs 2 ache 6 waited 8 position 0
            walkedOutTotal -> 0
            advance 1
            customerCount -> 0
            walkedOutTotal -> 1
            # minute, step 2: who sits keeps sitting in the order of the queue
            3 * addCustomer 9
            sit 1
            advance 1
            queue -> 1 2_ 3
            """);
    }

    private static void walkingOut() {
        Runs.check("""
            # minute, step 2: with the second sigh the customer stays, with the third the customer walks out
            addCustomer 1
            advance 2
            sighs 0 -> 2
            customerCount -> 1
            walkedOutTotal -> 0
            advance 1
            customerCount -> 0
            queueLength -> 0
            walkedOutTotal -> 1
            sighTotal -> 3
            sighs 0 -> throws.IndexOutOfBoundsException
            # minute, step 2: patience 30 lasts for 31 minutes
            addCustomer 30
            advance 20
            advance 11
            customer 0 -> ticket 1 patience 0 sighs 2 ache 0 waited 31 position 0
            advance 1
            customerCount -> 0
            # minute, step 2: each customer is processed once, though those in front walk out
            addCustomer 1
            addCustomer 1
            addCustomer 30
            addCustomer 1
            addCustomer 30
            advance 3
            queue -> 3 5
            customer 0 -> ticket 3 patience 27 sighs 0 ache 0 waited 3 position 0
            customer 1 -> ticket 5 patience 27 sighs 0 ache 0 waited 3 position 1
            walkedOutTotal -> 3
            sighTotal -> 9
            # minute, step 2: all 12 customers walk out in one minute
            12 * addCustomer 1
            advance 2
            customerCount -> 12
            sighTotal -> 24
            advance 1
            customerCount -> 0
            queueLength -> 0
            walkedOutTotal -> 12
            sighTotal -> 36
            # minute, step 2: sighs count over several stays in the queue
            addCustomer 1
            callNext
            openWindow 0 99 9
            advance 1
            sighs 0 -> 1
            closeWindow 0
            advance 1
            sighs 0 -> 2
            openWindow 0 99 9
            advance 1
            customerCount -> 0
            walkedOutTotal -> 1
            servedTotal -> 0
            # minute, step 2: who comes from a window that closes can walk out in that minute
            addCustomer 1
            callNext
            advance 1
            openWindow 0 2 9
            advance 1
            customer 0 -> ticket 1 patience 0 sighs 2 ache 0 waited 2 window 0 called
            advance 1
            customerCount -> 0
            walkedOutTotal -> 1
            """);
    }

    private static void filling() {
        Runs.check("""
            # minute, step 3: open windows are filled in index order by the called closest to the front
            5 * addCustomer 30
            swap 0 4
            4 * callNext
            queue -> 5 2! 3! 4! 1!
            openWindow 2 9 7
            openWindow 0 9 3
            advance 1
            windows -> 0:2/3 1:x 2:3/7
            queue -> 5 4! 1!
            # minute, step 3: the remaining service time is the pace, 1 or 9
            2 * addCustomer 30
            2 * callNext
            openWindow 0 99 1
            openWindow 1 99 9
            advance 1
            serviceTimeLeft 0 -> 1
            serviceTimeLeft 1 -> 9
            # minute, step 3: a customer who sits stands at the window
            addCustomer 30
            sit 0
            callNext
            openWindow 0 9 9
            advance 1
            customer 0 -> ticket 1 patience 30 sighs 0 ache 1 waited 1 window 0 called
            # minute, step 3: without a called customer the window stays empty
            addCustomer 30
            openWindow 0 9 9
            advance 1
            windows -> 0:- 1:x 2:x
            callNext
            windows -> 0:- 1:x 2:x
            advance 1
            windows -> 0:1/9 1:x 2:x
            # minute, step 3: with an empty queue the windows stay empty
            openWindow 0 9 9
            openWindow 1 9 9
            openWindow 2 9 9
            advance 1
            windows -> 0:- 1:- 2:-
            # minute, step 3: more windows than called customers
            3 * addCustomer 30
            2 * callNext
            openWindow 0 9 9
            openWindow 1 9 9
            openWindow 2 9 9
            advance 1
            windows -> 0:1/9 1:2/9 2:-
            queue -> 3
            # minute, step 3: a window that has become empty is filled in the same minute
            2 * addCustomer 30
            2 * callNext
            openWindow 0 99 1
            advance 1
            windows -> 0:1/1 1:x 2:x
            advance 1 -> 1
            windows -> 0:2/1 1:x 2:x
            # minute, step 3: a window with a customer is not filled
            2 * addCustomer 30
            2 * callNext
            openWindow 0 99 2
            advance 2
            windows -> 0:1/1 1:x 2:x
            queue -> 2!
            """);
    }

    private static void counter() {
        Runs.check("""
            # minute, step 4: the minute counter increases by 1
            minute -> 0
            advance 1
            minute -> 1
            advance 20
            minute -> 21
            # minute, step 4: one by one is the same as all at once
            12 * addCustomer 9
            12 * callNext
            sit 3
            sit 9
            openWindow 0 7 2
            openWindow 2 20 3
            20 * advance 1
            minute -> 20
            servedTotal -> 8
            walkedOutTotal -> 4
            # minute, step 4: all at once
            12 * addCustomer 9
            12 * callNext
            sit 3
            sit 9
            openWindow 0 7 2
            openWindow 2 20 3
            advance 20 -> 8
            minute -> 20
            servedTotal -> 8
            walkedOutTotal -> 4
            """);
    }

    private static void inversions() {
        Runs.check("""
            # inversions: an empty queue
            inversions -> 0
            inversionsByBubbleSort -> 0
            # inversions: one customer
            addCustomer 30
            inversions -> 0
            inversionsByBubbleSort -> 0
            # inversions: the customer with the higher ticket number is closer to the front
            2 * addCustomer 30
            inversions -> 0
            inversionsByBubbleSort -> 0
            swap 0 1
            inversions -> 1
            inversionsByBubbleSort -> 1
            # inversions: the first and the last of 12
            12 * addCustomer 30
            swap 0 11 -> 11
            inversions -> 21
            inversionsByBubbleSort -> 21
            # inversions: twelve in the reverse order
            12 * addCustomer 30
            swap 0 11
            swap 1 10
            swap 2 9
            swap 3 8
            swap 4 7
            swap 5 6
            inversions -> 66
            inversionsByBubbleSort -> 66
            # inversions: only customers in the queue
            3 * addCustomer 30
            swap 0 2
            swap 0 1
            queue -> 3 1 2
            inversions -> 2
            inversionsByBubbleSort -> 2
            callNext
            openWindow 0 2 9
            advance 1
            queue -> 3 2
            inversions -> 1
            inversionsByBubbleSort -> 1
            advance 1
            queue -> 1! 3 2
            inversions -> 1
            inversionsByBubbleSort -> 1
            # inversions: a removed customer does not count
            3 * addCustomer 30
            swap 0 2
            inversions -> 3
            inversionsByBubbleSort -> 3
            remove 1
            inversions -> 1
            inversionsByBubbleSort -> 1
            """);
    }
}
