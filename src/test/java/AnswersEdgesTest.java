/** The boundary cases of promises 11 to 33: customers, queue, windows, order and predictions. */
final class AnswersEdgesTest {
    private AnswersEdgesTest() {
    }

    static void run() {
        customerCount();
        noSuchCustomer();
        values();
        flags();
        position();
        windowOfCustomer();
        queue();
        noSuchWindow();
        windows();
        calledAhead();
        minutesUntilWindow();
        minutesUntilWindowInTime();
        patienceAfter();
        sighsWithin();
        longPrediction();
    }

    private static void customerCount() {
        Runs.check("""
            # 11: 0 in an empty hall
            customerCount -> 0
            addCustomer 30
            customerCount -> 1
            remove 0
            customerCount -> 0
            # 11: 12 in a full hall, in the queue and at windows
            12 * addCustomer 30
            customerCount -> 12
            3 * callNext
            openWindow 0 9 9
            openWindow 1 9 9
            openWindow 2 9 9
            advance 1
            customerCount -> 12
            # 11: all at windows
            3 * addCustomer 30
            3 * callNext
            openWindow 0 9 9
            openWindow 1 9 9
            openWindow 2 9 9
            advance 1
            customerCount -> 3
            queueLength -> 0
            """);
    }

    private static void noSuchCustomer() {
        String[] methods = {"12: ticket", "13: patience", "14: sighs", "15: ache", "16: waitingTime", "17: isCalled",
            "18: isSitting", "19: position", "20: windowOfCustomer", "27: calledAhead", "28: calledAheadByPositions",
            "31: minutesUntilWindow"};
        for (String method : methods) {
            String name = method.substring(4);
            Runs.check("""
                # NAMED, IndexOutOfBoundsException if there is no such customer: an empty hall
                NAME 0 -> throws.IndexOutOfBoundsException
                NAME 1 -> throws.IndexOutOfBoundsException
                NAME -1 -> throws.IndexOutOfBoundsException
                NAME MIN -> throws.IndexOutOfBoundsException
                NAME MAX -> throws.IndexOutOfBoundsException
                # NAMED, IndexOutOfBoundsException if there is no such customer: three customers, one at a window
                4 * addCustomer 30
                callNext
                openWindow 0 9 9
                advance 1
                remove 3
                NAME -1 -> throws.IndexOutOfBoundsException
                NAME 3 -> throws.IndexOutOfBoundsException
                NAME 4 -> throws.IndexOutOfBoundsException
                NAME MIN -> throws.IndexOutOfBoundsException
                NAME MAX -> throws.IndexOutOfBoundsException
                # NAMED, IndexOutOfBoundsException if there is no such customer: a full hall
                12 * addCustomer 30
                NAME -1 -> throws.IndexOutOfBoundsException
                NAME 12 -> throws.IndexOutOfBoundsException
                NAME 13 -> throws.IndexOutOfBoundsException
                # NAMED, IndexOutOfBoundsException if there is no such customer: no longer
                addCustomer 1
                advance 3
                NAME 0 -> throws.IndexOutOfBoundsException
                """.replace("NAMED", method).replace("NAME", name));
        }
    }

    private static void values() {
        Runs.check("""
            # 12: the ticket of the first and the last of 12
            12 * addCustomer 30
            ticket 0 -> 1
            ticket 11 -> 12
            remove 0
            ticket 0 -> 2
            ticket 10 -> 12
            ticket 11 -> throws.IndexOutOfBoundsException
            # 13: the patience from 30 to 0
            addCustomer 30
            addCustomer 1
            patience 0 -> 30
            patience 1 -> 1
            advance 1
            patience 0 -> 29
            patience 1 -> 0
            advance 1
            patience 1 -> 0
            # 14: from no sigh to two
            addCustomer 1
            sighs 0 -> 0
            advance 1
            sighs 0 -> 1
            advance 1
            sighs 0 -> 2
            advance 1
            sighs 0 -> throws.IndexOutOfBoundsException
            # 14: the sighs of one at a window
            addCustomer 1
            callNext
            advance 1
            openWindow 0 9 9
            advance 1
            sighs 0 -> 2
            advance 5
            sighs 0 -> 2
            # 15: the ache from 0 to 6
            addCustomer 30
            ache 0 -> 0
            sit 0
            ache 0 -> 0
            advance 1
            ache 0 -> 1
            advance 5
            ache 0 -> 6
            # 15: the ache of one at a window
            addCustomer 30
            sit 0
            callNext
            advance 2
            openWindow 0 9 9
            advance 1
            ache 0 -> 3
            advance 5
            ache 0 -> 3
            # 16: the minutes in the queue, not those at a window
            addCustomer 30
            waitingTime 0 -> 0
            callNext
            openWindow 0 9 9
            advance 9
            waitingTime 0 -> 2
            advance 1
            waitingTime 0 -> 3
            """);
    }

    private static void flags() {
        Runs.check("""
            # 17: called or not
            2 * addCustomer 30
            isCalled 0 -> false
            isCalled 1 -> false
            callNext
            isCalled 0 -> true
            isCalled 1 -> false
            callNext
            isCalled 1 -> true
            # 17: with the customer, when an index changes
            3 * addCustomer 30
            2 * callNext
            remove 0
            isCalled 0 -> true
            isCalled 1 -> false
            # 18: sits or not
            2 * addCustomer 30
            isSitting 0 -> false
            isSitting 1 -> false
            sit 1
            isSitting 0 -> false
            isSitting 1 -> true
            remove 0
            isSitting 0 -> true
            standUp 0
            isSitting 0 -> false
            # 18: a customer at a window stands
            addCustomer 30
            sit 0
            callNext
            openWindow 0 9 9
            isSitting 0 -> true
            advance 1
            isSitting 0 -> false
            """);
    }

    private static void position() {
        Runs.check("""
            # 19: the front and the end of a full queue
            12 * addCustomer 30
            position 0 -> 0
            position 11 -> 11
            swap 0 11
            position 0 -> 11
            position 11 -> 0
            # 19: NoSuchElementException if the customer is at a window, at each of them
            3 * addCustomer 30
            3 * callNext
            openWindow 0 9 9
            openWindow 1 9 9
            openWindow 2 9 9
            advance 1
            position 0 -> throws.NoSuchElementException
            position 1 -> throws.NoSuchElementException
            position 2 -> throws.NoSuchElementException
            position 3 -> throws.IndexOutOfBoundsException
            position -1 -> throws.IndexOutOfBoundsException
            closeWindow 1
            position 1 -> 0
            """);
    }

    private static void windowOfCustomer() {
        Runs.check("""
            # 20: each window
            3 * addCustomer 30
            swap 0 2
            3 * callNext
            openWindow 0 9 9
            openWindow 1 9 9
            openWindow 2 9 9
            windowOfCustomer 0 -> throws.NoSuchElementException
            advance 1
            windowOfCustomer 0 -> 2
            windowOfCustomer 1 -> 1
            windowOfCustomer 2 -> 0
            windowOfCustomer 3 -> throws.IndexOutOfBoundsException
            windowOfCustomer -1 -> throws.IndexOutOfBoundsException
            # 20: NoSuchElementException if the customer is in the queue
            12 * addCustomer 30
            windowOfCustomer 0 -> throws.NoSuchElementException
            windowOfCustomer 11 -> throws.NoSuchElementException
            callNext
            openWindow 0 9 9
            advance 1
            windowOfCustomer 0 -> 0
            windowOfCustomer 11 -> throws.NoSuchElementException
            closeWindow 0
            windowOfCustomer 0 -> throws.NoSuchElementException
            """);
    }

    private static void queue() {
        Runs.check("""
            # 21: IndexOutOfBoundsException if the queue has no such position: an empty queue
            customerAtPosition 0 -> throws.IndexOutOfBoundsException
            customerAtPosition -1 -> throws.IndexOutOfBoundsException
            customerAtPosition MIN -> throws.IndexOutOfBoundsException
            customerAtPosition MAX -> throws.IndexOutOfBoundsException
            # 21: a full queue
            12 * addCustomer 30
            customerAtPosition 0 -> 0
            customerAtPosition 11 -> 11
            customerAtPosition 12 -> throws.IndexOutOfBoundsException
            customerAtPosition -1 -> throws.IndexOutOfBoundsException
            customerAtPosition MIN -> throws.IndexOutOfBoundsException
            customerAtPosition MAX -> throws.IndexOutOfBoundsException
            # 21: a queue that is shorter than the hall is full
            3 * addCustomer 30
            callNext
            openWindow 0 9 9
            advance 1
            customerAtPosition 0 -> 1
            customerAtPosition 1 -> 2
            customerAtPosition 2 -> throws.IndexOutOfBoundsException
            # 21: nobody in the queue, but at a window
            addCustomer 30
            callNext
            openWindow 0 9 9
            advance 1
            customerAtPosition 0 -> throws.IndexOutOfBoundsException
            # 22: from 0 to 12
            queueLength -> 0
            addCustomer 30
            queueLength -> 1
            11 * addCustomer 30
            queueLength -> 12
            callNext
            openWindow 0 9 9
            queueLength -> 12
            advance 1
            queueLength -> 11
            remove 0
            queueLength -> 11
            remove 0
            queueLength -> 10
            """);
    }

    private static void noSuchWindow() {
        String[] methods = {"23: openingTimeLeft", "24: pace", "25: customerAtWindow", "26: serviceTimeLeft"};
        for (String method : methods) {
            String name = method.substring(4);
            Runs.check("""
                # NAMED, IndexOutOfBoundsException if there is no such window: all closed
                NAME -1 -> throws.IndexOutOfBoundsException
                NAME 3 -> throws.IndexOutOfBoundsException
                NAME MIN -> throws.IndexOutOfBoundsException
                NAME MAX -> throws.IndexOutOfBoundsException
                # NAMED, IndexOutOfBoundsException if there is no such window: all open, with a customer each
                12 * addCustomer 30
                3 * callNext
                openWindow 0 9 9
                openWindow 1 9 9
                openWindow 2 9 9
                advance 1
                NAME -1 -> throws.IndexOutOfBoundsException
                NAME 0
                NAME 1
                NAME 2
                NAME 3 -> throws.IndexOutOfBoundsException
                NAME 12 -> throws.IndexOutOfBoundsException
                """.replace("NAMED", method).replace("NAME", name));
        }
    }

    private static void windows() {
        Runs.check("""
            # 23: 0 if the window is closed: never opened, closed, closed by time
            openingTimeLeft 0 -> 0
            openWindow 0 99 1
            openingTimeLeft 0 -> 99
            closeWindow 0
            openingTimeLeft 0 -> 0
            openWindow 1 1 1
            openingTimeLeft 1 -> 1
            advance 1
            openingTimeLeft 1 -> 0
            # 24: IllegalStateException if the window is closed: never opened, closed, closed by time
            pace 0 -> throws.IllegalStateException
            pace 1 -> throws.IllegalStateException
            pace 2 -> throws.IllegalStateException
            openWindow 0 99 9
            pace 0 -> 9
            pace 1 -> throws.IllegalStateException
            closeWindow 0
            pace 0 -> throws.IllegalStateException
            openWindow 1 1 1
            pace 1 -> 1
            advance 1
            pace 1 -> throws.IllegalStateException
            # 25 and 26: NoSuchElementException if no customer is at the window: closed, open, left
            customerAtWindow 2 -> throws.NoSuchElementException
            serviceTimeLeft 2 -> throws.NoSuchElementException
            addCustomer 30
            openWindow 2 99 9
            customerAtWindow 2 -> throws.NoSuchElementException
            serviceTimeLeft 2 -> throws.NoSuchElementException
            callNext
            advance 1
            customerAtWindow 2 -> 0
            serviceTimeLeft 2 -> 9
            advance 8
            customerAtWindow 2 -> 0
            serviceTimeLeft 2 -> 1
            advance 1
            customerAtWindow 2 -> throws.NoSuchElementException
            serviceTimeLeft 2 -> throws.NoSuchElementException
            # 25 and 26: removed, or the window closed
            2 * addCustomer 30
            2 * callNext
            openWindow 0 99 9
            openWindow 1 99 9
            advance 1
            remove 0
            customerAtWindow 0 -> throws.NoSuchElementException
            serviceTimeLeft 0 -> throws.NoSuchElementException
            customerAtWindow 1 -> 0
            closeWindow 1
            customerAtWindow 1 -> throws.NoSuchElementException
            serviceTimeLeft 1 -> throws.NoSuchElementException
            openWindow 1 99 9
            customerAtWindow 1 -> throws.NoSuchElementException
            serviceTimeLeft 1 -> throws.NoSuchElementException
            # 25: the last of 12 customers
            12 * addCustomer 30
            swap 0 11
            12 * callNext
            openWindow 1 99 9
            advance 1
            customerAtWindow 1 -> 11
            """);
    }

    private static void calledAhead() {
        for (String name : new String[] {"27: calledAhead", "28: calledAheadByPositions"}) {
            Runs.check("""
                # NAMED: 0 at the front, and 11 at the end of a full queue
                12 * addCustomer 30
                NAME 11 -> 0
                12 * callNext
                NAME 0 -> 0
                NAME 1 -> 1
                NAME 11 -> 11
                # NAMED: the customer's own ticket does not count
                2 * addCustomer 30
                callNext
                NAME 0 -> 0
                NAME 1 -> 1
                # NAMED: only those in front
                3 * addCustomer 30
                swap 0 2
                callNext
                queue -> 3 2 1!
                NAME 0 -> 0
                NAME 1 -> 0
                NAME 2 -> 0
                # NAMED: 0 if the customer is at a window, and those at windows are not in front
                5 * addCustomer 30
                4 * callNext
                openWindow 0 9 9
                openWindow 1 9 9
                advance 1
                queue -> 3! 4! 5
                NAME 0 -> 0
                NAME 1 -> 0
                NAME 2 -> 0
                NAME 3 -> 1
                NAME 4 -> 2
                """.replace("NAMED", name).replace("NAME", name.substring(4)));
        }
    }

    private static void minutesUntilWindow() {
        Runs.check("""
            # 31: 0 if the customer is at a window now, in the last minute there too
            addCustomer 30
            callNext
            openWindow 0 3 2
            advance 1
            minutesUntilWindow 0 -> 0
            advance 1
            serviceTimeLeft 0 -> 1
            minutesUntilWindow 0 -> 0
            # 31: 0 if the customer is at a window that closes in the next minute
            addCustomer 30
            callNext
            openWindow 0 2 9
            advance 1
            minutesUntilWindow 0 -> 0
            advance 1
            minutesUntilWindow 0 -> throws.NoSuchElementException
            # 31: 1 if a window is free
            addCustomer 30
            callNext
            openWindow 2 2 1
            minutesUntilWindow 0 -> 1
            # 31: NoSuchElementException if the window closes in the next minute
            addCustomer 30
            callNext
            openWindow 2 1 1
            minutesUntilWindow 0 -> throws.NoSuchElementException
            # 31: NoSuchElementException if no window is open
            addCustomer 30
            callNext
            minutesUntilWindow 0 -> throws.NoSuchElementException
            # 31: NoSuchElementException if the ticket is not called
            addCustomer 30
            openWindow 2 99 1
            minutesUntilWindow 0 -> throws.NoSuchElementException
            callNext
            minutesUntilWindow 0 -> 1
            # 31: NoSuchElementException if the customer leaves the hall before, in the same minute too
            addCustomer 30
            addCustomer 3
            addCustomer 30
            3 * callNext
            openWindow 0 99 3
            minutesUntilWindow 0 -> 1
            minutesUntilWindow 1 -> 4
            minutesUntilWindow 2 -> 7
            # 31: with one patience less
            addCustomer 30
            addCustomer 2
            addCustomer 30
            3 * callNext
            openWindow 0 99 3
            minutesUntilWindow 0 -> 1
            minutesUntilWindow 1 -> throws.NoSuchElementException
            minutesUntilWindow 2 -> 4
            # 31: for the first time, though the window closes and the customer comes back
            2 * addCustomer 30
            2 * callNext
            openWindow 0 2 9
            openWindow 1 99 5
            minutesUntilWindow 0 -> 1
            minutesUntilWindow 1 -> 1
            advance 2
            windows -> 0:x 1:2/4 2:x
            minutesUntilWindow 0 -> 4
            """);
    }

    /** Four customers in front, nine minutes each: the last one lasts for 37 minutes, after 6 of sitting. */
    private static void minutesUntilWindowInTime() {
        Runs.check("""
            # 31: the longest time before a customer walks out is 37 minutes
            addCustomer 30
            callNext
            openWindow 0 99 9
            advance 9
            serviceTimeLeft 0 -> 1
            5 * addCustomer 30
            5 * callNext
            minutesUntilWindow 1 -> 1
            minutesUntilWindow 4 -> 28
            minutesUntilWindow 5 -> throws.NoSuchElementException
            sit 5
            minutesUntilWindow 5 -> 37
            patienceAfter 5 37 -> 0
            # 31: one minute later is too late
            addCustomer 30
            callNext
            openWindow 0 99 9
            advance 8
            serviceTimeLeft 0 -> 2
            5 * addCustomer 30
            5 * callNext
            sit 5
            minutesUntilWindow 1 -> 2
            minutesUntilWindow 4 -> 29
            minutesUntilWindow 5 -> throws.NoSuchElementException
            """);
    }

    private static void patienceAfter() {
        Runs.check("""
            # 32: IndexOutOfBoundsException if there is no such customer
            patienceAfter 0 0 -> throws.IndexOutOfBoundsException
            2 * addCustomer 30
            patienceAfter -1 5 -> throws.IndexOutOfBoundsException
            patienceAfter 2 5 -> throws.IndexOutOfBoundsException
            patienceAfter MIN 0 -> throws.IndexOutOfBoundsException
            patienceAfter MAX 60 -> throws.IndexOutOfBoundsException
            patienceAfter 0 5 -> 25
            patienceAfter 1 5 -> 25
            # 32: IllegalArgumentException if minutes is not between 0 and 60
            addCustomer 30
            patienceAfter 0 -1 -> throws.IllegalArgumentException
            patienceAfter 0 61 -> throws.IllegalArgumentException
            patienceAfter 0 MIN -> throws.IllegalArgumentException
            patienceAfter 0 MAX -> throws.IllegalArgumentException
            patienceAfter 0 0 -> 30
            patienceAfter 0 60 -> throws.NoSuchElementException
            # 32: IndexOutOfBoundsException before IllegalArgumentException
            patienceAfter 0 -1 -> throws.IndexOutOfBoundsException
            patienceAfter 0 61 -> throws.IndexOutOfBoundsException
            addCustomer 30
            patienceAfter 1 -1 -> throws.IndexOutOfBoundsException
            patienceAfter -1 61 -> throws.IndexOutOfBoundsException
            # 32: IndexOutOfBoundsException before NoSuchElementException
            addCustomer 1
            patienceAfter 1 60 -> throws.IndexOutOfBoundsException
            patienceAfter 1 3 -> throws.IndexOutOfBoundsException
            # 32: IllegalArgumentException before NoSuchElementException
            addCustomer 1
            patienceAfter 0 3 -> throws.NoSuchElementException
            patienceAfter 0 61 -> throws.IllegalArgumentException
            patienceAfter 0 MAX -> throws.IllegalArgumentException
            # 32: NoSuchElementException if the customer has walked out by then
            addCustomer 4
            patienceAfter 0 3 -> 1
            patienceAfter 0 4 -> 0
            patienceAfter 0 5 -> 0
            patienceAfter 0 6 -> throws.NoSuchElementException
            patienceAfter 0 60 -> throws.NoSuchElementException
            # 32: NoSuchElementException if the customer has been served by then
            addCustomer 30
            callNext
            openWindow 0 99 3
            patienceAfter 0 1 -> 29
            patienceAfter 0 3 -> 29
            patienceAfter 0 4 -> throws.NoSuchElementException
            # 32: of a customer who sits, then stands
            addCustomer 10
            sit 0
            patienceAfter 0 6 -> 10
            patienceAfter 0 7 -> 9
            # 32: the customer is meant, though those before leave
            addCustomer 1
            addCustomer 20
            patienceAfter 1 2 -> 18
            patienceAfter 1 3 -> 17
            patienceAfter 0 3 -> throws.NoSuchElementException
            # 32: of a customer whose window closes
            addCustomer 30
            callNext
            openWindow 0 3 9
            patienceAfter 0 1 -> 29
            patienceAfter 0 2 -> 29
            patienceAfter 0 3 -> 28
            """);
    }

    private static void sighsWithin() {
        Runs.check("""
            # 33: IllegalArgumentException if minutes is not between 0 and 60
            sighsWithin -1 -> throws.IllegalArgumentException
            sighsWithin 61 -> throws.IllegalArgumentException
            sighsWithin MIN -> throws.IllegalArgumentException
            sighsWithin MAX -> throws.IllegalArgumentException
            sighsWithin 0 -> 0
            sighsWithin 60 -> 0
            addCustomer 1
            sighsWithin -1 -> throws.IllegalArgumentException
            sighsWithin 61 -> throws.IllegalArgumentException
            sighsWithin 0 -> 0
            sighsWithin 60 -> 3
            # 33: of all customers together, up to their third sigh
            12 * addCustomer 1
            sighsWithin 0 -> 0
            sighsWithin 1 -> 12
            sighsWithin 2 -> 24
            sighsWithin 3 -> 36
            sighsWithin 4 -> 36
            sighsWithin 60 -> 36
            # 33: not those before
            addCustomer 1
            advance 2
            sighTotal -> 2
            sighsWithin 0 -> 0
            sighsWithin 1 -> 1
            sighsWithin 60 -> 1
            advance 1
            sighsWithin 60 -> 0
            # 33: none at a window
            addCustomer 2
            callNext
            openWindow 0 99 9
            sighsWithin 60 -> 0
            # 31 to 33: a prediction does not change the state, and is no change to undo
            12 * addCustomer 5
            6 * callNext
            openWindow 0 9 2
            undo -> 7
            openWindow 0 9 2
            minutesUntilWindow 1 -> 3
            patienceAfter 3 4 -> 1
            sighsWithin 60 -> 28
            minute -> 0
            customer 0 -> ticket 1 patience 5 sighs 0 ache 0 waited 0 position 0 called
            undo -> 7
            windows -> 0:x 1:x 2:x
            """);
    }

    /** The last customer comes to three windows one after the other, and each of them closes too early. */
    private static void longPrediction() {
        Runs.check("""
            # 31 to 33: the longest stay: 38 minutes in the queue, 21 at windows that close
            12 * addCustomer 30
            12 * callNext
            sit 11
            openWindow 0 45 9
            openWindow 1 53 9
            openWindow 2 36 9
            minutesUntilWindow 11 -> 28
            patienceAfter 11 56 -> 1
            patienceAfter 11 57 -> 0
            patienceAfter 11 58 -> 0
            patienceAfter 11 59 -> throws.NoSuchElementException
            patienceAfter 11 60 -> throws.NoSuchElementException
            patienceAfter 11 61 -> throws.IllegalArgumentException
            sighsWithin 56 -> 0
            sighsWithin 57 -> 1
            sighsWithin 58 -> 2
            sighsWithin 59 -> 3
            sighsWithin 60 -> 3
            sighsWithin 61 -> throws.IllegalArgumentException
            2 * advance 20
            advance 18
            customer 0 -> ticket 12 patience 0 sighs 2 ache 0 waited 37 position 0 called
            advance 1 -> 0
            customerCount -> 0
            minute -> 59
            """);
    }
}
