/** The boundary cases of promises 1 to 10: a new object and the changes. */
final class ChangesEdgesTest {
    private ChangesEdgesTest() {
    }

    static void run() {
        newObject();
        addCustomer();
        openWindow();
        openWindowArguments();
        closeWindow();
        callNext();
        swap();
        swapOrder();
        sit();
        standUp();
        remove();
        advance();
    }

    private static void newObject() {
        Runs.check("""
            # 1: a hall without customers in minute 0
            customerCount -> 0
            queueLength -> 0
            minute -> 0
            windows -> 0:x 1:x 2:x
            # 1: nobody has been added, served, has walked out or sighed
            addedTotal -> 0
            servedTotal -> 0
            walkedOutTotal -> 0
            sighTotal -> 0
            inversions -> 0
            inversionsByBubbleSort -> 0
            sighsWithin 60 -> 0
            isConsistent -> true
            # 1: whatever asks for a customer, a position or a rank is refused
            ticket 0 -> throws.IndexOutOfBoundsException
            patience 0 -> throws.IndexOutOfBoundsException
            sighs 0 -> throws.IndexOutOfBoundsException
            ache 0 -> throws.IndexOutOfBoundsException
            waitingTime 0 -> throws.IndexOutOfBoundsException
            isCalled 0 -> throws.IndexOutOfBoundsException
            isSitting 0 -> throws.IndexOutOfBoundsException
            position 0 -> throws.IndexOutOfBoundsException
            windowOfCustomer 0 -> throws.IndexOutOfBoundsException
            customerAtPosition 0 -> throws.IndexOutOfBoundsException
            calledAhead 0 -> throws.IndexOutOfBoundsException
            calledAheadByPositions 0 -> throws.IndexOutOfBoundsException
            minutesUntilWindow 0 -> throws.IndexOutOfBoundsException
            patienceAfter 0 0 -> throws.IndexOutOfBoundsException
            customerBySighs 0 -> throws.NoSuchElementException
            customerByWaitingTime 0 -> throws.NoSuchElementException
            # 1: there is no served customer, no output, no script, no change and no snapshot
            servedTicket 0 -> throws.NoSuchElementException
            servedWaitingTime 0 -> throws.NoSuchElementException
            meanPatience -> throws.ArithmeticException
            calmShare -> throws.ArithmeticException
            outputAt 0 -> throws.IndexOutOfBoundsException
            errorPosition -> throws.NoSuchElementException
            failedCommand -> throws.NoSuchElementException
            undo -> throws.NoSuchElementException
            restore -> throws.IllegalStateException
            type 32 -> 1
            """);
    }

    private static void addCustomer() {
        Runs.check("""
            # 2: IllegalArgumentException if the patience is not between 1 and 30
            addCustomer 0 -> throws.IllegalArgumentException
            addCustomer 31 -> throws.IllegalArgumentException
            addCustomer -1 -> throws.IllegalArgumentException
            addCustomer MIN -> throws.IllegalArgumentException
            addCustomer MAX -> throws.IllegalArgumentException
            addCustomer 1 -> 0
            patience 0 -> 1
            addCustomer 0 -> throws.IllegalArgumentException
            addCustomer 30 -> 1
            patience 1 -> 30
            addCustomer 31 -> throws.IllegalArgumentException
            addCustomer 2 -> 2
            addCustomer 29 -> 3
            customerCount -> 4
            # 2: IllegalStateException if 12 customers are in the hall
            10 * addCustomer 5 -> 9
            addCustomer 5 -> 10
            addCustomer 5 -> 11
            addCustomer 1 -> throws.IllegalStateException
            addCustomer 30 -> throws.IllegalStateException
            # 2: IllegalArgumentException before IllegalStateException
            12 * addCustomer 5
            addCustomer 0 -> throws.IllegalArgumentException
            addCustomer 31 -> throws.IllegalArgumentException
            addCustomer MIN -> throws.IllegalArgumentException
            addCustomer MAX -> throws.IllegalArgumentException
            # 2: the index that is returned is the one after all others
            3 * addCustomer 5 -> 2
            remove 0
            addCustomer 5 -> 2
            remove 2
            addCustomer 5 -> 2
            2 * remove 0
            remove 0
            addCustomer 5 -> 0
            """);
    }

    private static void openWindow() {
        Runs.check("""
            # 3: IndexOutOfBoundsException if there is no such window
            openWindow -1 1 1 -> throws.IndexOutOfBoundsException
            openWindow 3 1 1 -> throws.IndexOutOfBoundsException
            openWindow MIN 1 1 -> throws.IndexOutOfBoundsException
            openWindow MAX 1 1 -> throws.IndexOutOfBoundsException
            openWindow 0 1 1 -> 1
            openWindow 1 1 1 -> 2
            openWindow 2 1 1 -> 3
            openWindow 3 1 1 -> throws.IndexOutOfBoundsException
            # 3: IllegalStateException if the window is open, in its last minute too
            openWindow 0 2 1 -> 1
            openWindow 0 2 1 -> throws.IllegalStateException
            advance 1
            openWindow 0 2 1 -> throws.IllegalStateException
            openWindow 1 2 1 -> 2
            advance 1
            openWindow 0 2 1 -> 2
            # 3: IllegalStateException for each of three open windows
            openWindow 2 99 9 -> 1
            openWindow 1 99 9 -> 2
            openWindow 0 99 9 -> 3
            openWindow 0 99 9 -> throws.IllegalStateException
            openWindow 1 99 9 -> throws.IllegalStateException
            openWindow 2 99 9 -> throws.IllegalStateException
            # 3: a window that was closed can be opened again, with another time and pace
            openWindow 1 99 9 -> 1
            closeWindow 1 -> 0
            openWindow 1 3 4 -> 1
            openingTimeLeft 1 -> 3
            pace 1 -> 4
            # 3: IndexOutOfBoundsException before IllegalArgumentException
            openWindow 3 0 1 -> throws.IndexOutOfBoundsException
            openWindow 3 1 0 -> throws.IndexOutOfBoundsException
            openWindow -1 100 10 -> throws.IndexOutOfBoundsException
            openWindow MAX MAX MAX -> throws.IndexOutOfBoundsException
            openWindow MIN MIN MIN -> throws.IndexOutOfBoundsException
            # 3: IllegalArgumentException before IllegalStateException
            openWindow 1 5 5
            openWindow 1 0 5 -> throws.IllegalArgumentException
            openWindow 1 100 5 -> throws.IllegalArgumentException
            openWindow 1 5 0 -> throws.IllegalArgumentException
            openWindow 1 5 10 -> throws.IllegalArgumentException
            openWindow 1 5 5 -> throws.IllegalStateException
            # 3: IndexOutOfBoundsException with all windows open
            openWindow 0 5 5
            openWindow 1 5 5
            openWindow 2 5 5
            openWindow 3 5 5 -> throws.IndexOutOfBoundsException
            openWindow -1 0 0 -> throws.IndexOutOfBoundsException
            """);
    }

    private static void openWindowArguments() {
        Runs.check("""
            # 3: IllegalArgumentException if minutes is not between 1 and 99
            openWindow 0 0 1 -> throws.IllegalArgumentException
            openWindow 0 100 1 -> throws.IllegalArgumentException
            openWindow 0 -1 1 -> throws.IllegalArgumentException
            openWindow 0 MIN 1 -> throws.IllegalArgumentException
            openWindow 0 MAX 1 -> throws.IllegalArgumentException
            openWindow 0 1 1 -> 1
            openWindow 1 99 1 -> 2
            openingTimeLeft 0 -> 1
            openingTimeLeft 1 -> 99
            # 3: IllegalArgumentException if pace is not between 1 and 9
            openWindow 2 1 0 -> throws.IllegalArgumentException
            openWindow 2 1 10 -> throws.IllegalArgumentException
            openWindow 2 1 -1 -> throws.IllegalArgumentException
            openWindow 2 1 MIN -> throws.IllegalArgumentException
            openWindow 2 1 MAX -> throws.IllegalArgumentException
            openWindow 2 1 1 -> 1
            openWindow 1 1 9 -> 2
            pace 2 -> 1
            pace 1 -> 9
            # 3: IllegalArgumentException if both are wrong, and with the other one at its bounds
            openWindow 0 0 0 -> throws.IllegalArgumentException
            openWindow 0 100 10 -> throws.IllegalArgumentException
            openWindow 0 99 10 -> throws.IllegalArgumentException
            openWindow 0 100 9 -> throws.IllegalArgumentException
            openWindow 0 99 9 -> 1
            """);
    }

    private static void closeWindow() {
        Runs.check("""
            # 4: IndexOutOfBoundsException if there is no such window
            openWindow 0 9 9
            openWindow 1 9 9
            openWindow 2 9 9
            closeWindow -1 -> throws.IndexOutOfBoundsException
            closeWindow 3 -> throws.IndexOutOfBoundsException
            closeWindow MIN -> throws.IndexOutOfBoundsException
            closeWindow MAX -> throws.IndexOutOfBoundsException
            closeWindow 2 -> 2
            closeWindow 0 -> 1
            closeWindow 1 -> 0
            closeWindow 3 -> throws.IndexOutOfBoundsException
            # 4: IllegalStateException if the window is closed
            closeWindow 0 -> throws.IllegalStateException
            closeWindow 1 -> throws.IllegalStateException
            closeWindow 2 -> throws.IllegalStateException
            openWindow 1 9 9
            closeWindow 0 -> throws.IllegalStateException
            closeWindow 2 -> throws.IllegalStateException
            closeWindow 1 -> 0
            closeWindow 1 -> throws.IllegalStateException
            # 4: IllegalStateException if the time has closed the window
            openWindow 1 2 9
            advance 1
            closeWindow 1 -> 0
            openWindow 1 2 9
            advance 2
            closeWindow 1 -> throws.IllegalStateException
            # 4: an empty window moves nobody
            2 * addCustomer 30
            openWindow 1 9 9
            closeWindow 1 -> 0
            queue -> 1 2
            # 4: a customer moves to the front of an empty queue
            addCustomer 30
            callNext
            openWindow 1 9 9
            advance 1
            queueLength -> 0
            closeWindow 1 -> 0
            queue -> 1!
            openingTimeLeft 1 -> 0
            customerAtWindow 1 -> throws.NoSuchElementException
            # 4: a customer moves to the front of eleven others
            12 * addCustomer 30
            callNext
            openWindow 2 9 9
            advance 1
            queueLength -> 11
            closeWindow 2 -> 0
            queue -> 1! 2 3 4 5 6 7 8 9 10 11 12
            queueLength -> 12
            customer 0 -> ticket 1 patience 29 sighs 0 ache 0 waited 1 position 0 called
            # 4: three customers move to the front, one after the other
            12 * addCustomer 30
            3 * callNext
            openWindow 0 9 9
            openWindow 1 9 9
            openWindow 2 9 9
            advance 1
            closeWindow 2 -> 2
            closeWindow 0 -> 1
            closeWindow 1 -> 0
            queue -> 2! 1! 3! 4 5 6 7 8 9 10 11 12
            # 4: the minutes of service are lost
            addCustomer 30
            callNext
            openWindow 0 9 9
            advance 9
            openingTimeLeft 0 -> 0
            openWindow 0 9 9
            advance 5
            serviceTimeLeft 0 -> 5
            closeWindow 0
            openWindow 0 9 9
            advance 1
            serviceTimeLeft 0 -> 9
            """);
    }

    private static void callNext() {
        Runs.check("""
            # 5: NoSuchElementException in an empty hall
            callNext -> throws.NoSuchElementException
            addCustomer 30
            remove 0
            callNext -> throws.NoSuchElementException
            # 5: NoSuchElementException if all tickets are called
            addCustomer 30
            callNext -> 1
            callNext -> throws.NoSuchElementException
            addCustomer 30
            callNext -> 2
            callNext -> throws.NoSuchElementException
            # 5: NoSuchElementException if all 12 tickets are called
            12 * addCustomer 30
            11 * callNext -> 11
            callNext -> 12
            callNext -> throws.NoSuchElementException
            # 5: NoSuchElementException if the customers are at windows
            2 * addCustomer 30
            2 * callNext
            openWindow 0 9 9
            openWindow 1 9 9
            advance 1
            callNext -> throws.NoSuchElementException
            # 5: the lowest ticket, wherever its customer stands
            12 * addCustomer 30
            swap 0 11
            callNext -> 1
            isCalled 0 -> true
            isCalled 11 -> false
            callNext -> 2
            # 5: the lowest ticket of those in the hall
            3 * addCustomer 30
            remove 0
            callNext -> 2
            remove 1
            callNext -> throws.NoSuchElementException
            addCustomer 30
            callNext -> 4
            # 5: the lowest ticket of a customer who sits
            2 * addCustomer 30
            sit 0
            callNext -> 1
            queue -> 1!_ 2
            """);
    }

    private static void swap() {
        Runs.check("""
            # 6: IndexOutOfBoundsException if there is no such customer, for either argument
            swap 0 0 -> throws.IndexOutOfBoundsException
            swap 0 1 -> throws.IndexOutOfBoundsException
            3 * addCustomer 30
            swap -1 0 -> throws.IndexOutOfBoundsException
            swap 0 -1 -> throws.IndexOutOfBoundsException
            swap 3 0 -> throws.IndexOutOfBoundsException
            swap 0 3 -> throws.IndexOutOfBoundsException
            swap MIN 0 -> throws.IndexOutOfBoundsException
            swap 0 MIN -> throws.IndexOutOfBoundsException
            swap MAX 0 -> throws.IndexOutOfBoundsException
            swap 0 MAX -> throws.IndexOutOfBoundsException
            swap -1 3 -> throws.IndexOutOfBoundsException
            swap 2 0 -> 2
            swap 0 2 -> 2
            # 6: IndexOutOfBoundsException in a full hall
            12 * addCustomer 30
            swap 0 12 -> throws.IndexOutOfBoundsException
            swap 12 0 -> throws.IndexOutOfBoundsException
            swap 0 11 -> 11
            queue -> 12 2 3 4 5 6 7 8 9 10 11 1
            # 6: IllegalArgumentException if both arguments are equal
            2 * addCustomer 30
            swap 0 0 -> throws.IllegalArgumentException
            swap 1 1 -> throws.IllegalArgumentException
            swap 1 0 -> 1
            # 6: IllegalStateException if one of the customers, or both, are at a window
            4 * addCustomer 30
            2 * callNext
            openWindow 0 9 9
            openWindow 2 9 9
            advance 1
            swap 0 2 -> throws.IllegalStateException
            swap 2 0 -> throws.IllegalStateException
            swap 1 3 -> throws.IllegalStateException
            swap 3 1 -> throws.IllegalStateException
            swap 0 1 -> throws.IllegalStateException
            swap 1 0 -> throws.IllegalStateException
            swap 2 3 -> 1
            # 6: UnsupportedOperationException if the patience of the one who would move back is less than 2
            addCustomer 1
            addCustomer 2
            addCustomer 3
            swap 0 1 -> throws.UnsupportedOperationException
            swap 1 0 -> throws.UnsupportedOperationException
            swap 0 2 -> throws.UnsupportedOperationException
            swap 1 2 -> 1
            customer 0 -> ticket 1 patience 1 sighs 0 ache 0 waited 0 position 0
            customer 1 -> ticket 2 patience 0 sighs 0 ache 0 waited 0 position 2
            customer 2 -> ticket 3 patience 3 sighs 0 ache 0 waited 0 position 1
            swap 2 1 -> 1
            customer 1 -> ticket 2 patience 0 sighs 0 ache 0 waited 0 position 1
            customer 2 -> ticket 3 patience 1 sighs 0 ache 0 waited 0 position 2
            swap 1 2 -> throws.UnsupportedOperationException
            swap 2 1 -> throws.UnsupportedOperationException
            # 6: only the patience of the one who moves back counts
            addCustomer 2
            addCustomer 1
            swap 1 0 -> 1
            patience 0 -> 0
            patience 1 -> 1
            # 6: a customer who sits keeps sitting; nothing else changes
            3 * addCustomer 30
            sit 0
            sit 2
            callNext
            advance 2
            swap 0 2 -> 2
            customer 0 -> ticket 1 patience 28 sighs 0 ache 2 waited 2 position 2 called sits
            customer 1 -> ticket 2 patience 28 sighs 0 ache 0 waited 2 position 1
            customer 2 -> ticket 3 patience 30 sighs 0 ache 2 waited 2 position 0 sits
            queue -> 3_ 2 1!_
            minute -> 2
            """);
    }

    private static void swapOrder() {
        Runs.check("""
            # 6: IndexOutOfBoundsException before IllegalArgumentException
            2 * addCustomer 30
            swap 2 2 -> throws.IndexOutOfBoundsException
            swap -1 -1 -> throws.IndexOutOfBoundsException
            swap MIN MIN -> throws.IndexOutOfBoundsException
            swap MAX MAX -> throws.IndexOutOfBoundsException
            # 6: IndexOutOfBoundsException before IllegalStateException
            2 * addCustomer 30
            callNext
            openWindow 0 9 9
            advance 1
            swap 0 2 -> throws.IndexOutOfBoundsException
            swap 2 0 -> throws.IndexOutOfBoundsException
            # 6: IndexOutOfBoundsException before UnsupportedOperationException
            addCustomer 1
            swap 0 1 -> throws.IndexOutOfBoundsException
            swap 1 0 -> throws.IndexOutOfBoundsException
            # 6: IllegalArgumentException before IllegalStateException
            addCustomer 30
            callNext
            openWindow 0 9 9
            advance 1
            swap 0 0 -> throws.IllegalArgumentException
            # 6: IllegalArgumentException before UnsupportedOperationException
            addCustomer 1
            swap 0 0 -> throws.IllegalArgumentException
            # 6: IllegalStateException before UnsupportedOperationException
            2 * addCustomer 2
            callNext
            openWindow 0 9 9
            advance 1
            patience 0 -> 1
            patience 1 -> 1
            swap 0 1 -> throws.IllegalStateException
            swap 1 0 -> throws.IllegalStateException
            """);
    }

    private static void sit() {
        Runs.check("""
            # 7: IndexOutOfBoundsException if there is no such customer
            sit 0 -> throws.IndexOutOfBoundsException
            2 * addCustomer 30
            sit -1 -> throws.IndexOutOfBoundsException
            sit 2 -> throws.IndexOutOfBoundsException
            sit MIN -> throws.IndexOutOfBoundsException
            sit MAX -> throws.IndexOutOfBoundsException
            sit 0 -> 1
            sit 1 -> 2
            # 7: IndexOutOfBoundsException in a full hall, all chairs taken
            12 * addCustomer 30
            sit 11 -> 1
            sit 10 -> 2
            sit 9 -> 3
            sit 8 -> 4
            sit 12 -> throws.IndexOutOfBoundsException
            sit -1 -> throws.IndexOutOfBoundsException
            # 7: IllegalStateException if the customer is at a window
            addCustomer 30
            callNext
            openWindow 0 9 9
            advance 1
            sit 0 -> throws.IllegalStateException
            closeWindow 0
            sit 0 -> 1
            # 7: IllegalStateException if the customer sits
            addCustomer 30
            sit 0 -> 1
            sit 0 -> throws.IllegalStateException
            standUp 0
            sit 0 -> 1
            # 7: UnsupportedOperationException if all 4 chairs are taken
            6 * addCustomer 30
            sit 5 -> 1
            sit 0 -> 2
            sit 3 -> 3
            sit 1 -> 4
            sit 2 -> throws.UnsupportedOperationException
            sit 4 -> throws.UnsupportedOperationException
            remove 0
            sit 1 -> 4
            sit 3 -> throws.UnsupportedOperationException
            # 7: IllegalStateException before UnsupportedOperationException, for one who sits
            5 * addCustomer 30
            sit 0
            sit 1
            sit 2
            sit 3
            sit 0 -> throws.IllegalStateException
            sit 3 -> throws.IllegalStateException
            sit 4 -> throws.UnsupportedOperationException
            # 7: IllegalStateException before UnsupportedOperationException, for one at a window
            6 * addCustomer 30
            callNext
            openWindow 0 9 9
            advance 1
            sit 1
            sit 2
            sit 3
            sit 4 -> 4
            sit 0 -> throws.IllegalStateException
            sit 5 -> throws.UnsupportedOperationException
            # 7: the ache does not matter, 5 or 6
            2 * addCustomer 30
            sit 0
            sit 1
            advance 5
            standUp 0
            ache 0 -> 5
            sit 0 -> 2
            advance 1
            ache 0 -> 6
            ache 1 -> 6
            sit 0 -> 1
            sit 1 -> 2
            ache 1 -> 6
            # 7: a patience of 0 does not matter
            addCustomer 1
            advance 1
            sit 0 -> 1
            """);
    }

    private static void standUp() {
        Runs.check("""
            # 8: IndexOutOfBoundsException if there is no such customer
            standUp 0 -> throws.IndexOutOfBoundsException
            2 * addCustomer 30
            sit 0
            sit 1
            standUp -1 -> throws.IndexOutOfBoundsException
            standUp 2 -> throws.IndexOutOfBoundsException
            standUp MIN -> throws.IndexOutOfBoundsException
            standUp MAX -> throws.IndexOutOfBoundsException
            standUp 1 -> 1
            standUp 0 -> 0
            # 8: IllegalStateException if the customer does not sit
            3 * addCustomer 30
            standUp 0 -> throws.IllegalStateException
            sit 1
            standUp 0 -> throws.IllegalStateException
            standUp 2 -> throws.IllegalStateException
            standUp 1 -> 0
            standUp 1 -> throws.IllegalStateException
            # 8: IllegalStateException if the customer has stood up with ache 6
            addCustomer 30
            sit 0
            advance 6
            standUp 0 -> throws.IllegalStateException
            # 8: IllegalStateException if the customer is at a window, though the customer sat before
            addCustomer 30
            sit 0
            callNext
            openWindow 0 9 9
            advance 1
            standUp 0 -> throws.IllegalStateException
            closeWindow 0
            standUp 0 -> throws.IllegalStateException
            # 8: from 4 to 0 who sit
            4 * addCustomer 30
            sit 0
            sit 1
            sit 2
            sit 3 -> 4
            standUp 2 -> 3
            standUp 0 -> 2
            standUp 3 -> 1
            standUp 1 -> 0
            """);
    }

    private static void remove() {
        Runs.check("""
            # 9: IndexOutOfBoundsException if there is no such customer
            remove 0 -> throws.IndexOutOfBoundsException
            2 * addCustomer 30
            remove -1 -> throws.IndexOutOfBoundsException
            remove 2 -> throws.IndexOutOfBoundsException
            remove MIN -> throws.IndexOutOfBoundsException
            remove MAX -> throws.IndexOutOfBoundsException
            remove 1 -> 1
            remove 1 -> throws.IndexOutOfBoundsException
            remove 0 -> 0
            remove 0 -> throws.IndexOutOfBoundsException
            # 9: from 12 to 0 customers
            12 * addCustomer 30
            remove 12 -> throws.IndexOutOfBoundsException
            remove 11 -> 11
            10 * remove 0 -> 1
            ticket 0 -> 11
            remove 0 -> 0
            queueLength -> 0
            isConsistent -> true
            # 9: the customer may be at a window, which becomes empty
            3 * addCustomer 30
            3 * callNext
            openWindow 0 9 9
            openWindow 1 9 9
            openWindow 2 9 9
            advance 1
            remove 1 -> 2
            windows -> 0:1/9 1:- 2:3/9
            customerAtWindow 2 -> 1
            remove 1 -> 1
            remove 0 -> 0
            windows -> 0:- 1:- 2:-
            isConsistent -> true
            # 9: a removed customer is neither served nor has walked out
            2 * addCustomer 1
            remove 0
            servedTotal -> 0
            walkedOutTotal -> 0
            addedTotal -> 2
            sighTotal -> 0
            advance 3
            remove 0 -> throws.IndexOutOfBoundsException
            walkedOutTotal -> 1
            # 9: a customer who sits can be removed
            2 * addCustomer 30
            sit 0
            sit 1
            remove 0 -> 1
            standUp 0 -> 0
            """);
    }

    private static void advance() {
        Runs.check("""
            # 10: IllegalArgumentException if minutes is not between 1 and 20
            advance 0 -> throws.IllegalArgumentException
            advance 21 -> throws.IllegalArgumentException
            advance -1 -> throws.IllegalArgumentException
            advance MIN -> throws.IllegalArgumentException
            advance MAX -> throws.IllegalArgumentException
            advance 1 -> 0
            minute -> 1
            advance 20 -> 0
            minute -> 21
            # 10: IllegalArgumentException in a full hall
            12 * addCustomer 30
            advance 0 -> throws.IllegalArgumentException
            advance 21 -> throws.IllegalArgumentException
            advance 2 -> 0
            advance 19 -> 0
            minute -> 21
            # 10: the number of customers served in these minutes, not of those before
            12 * addCustomer 30
            12 * callNext
            openWindow 0 99 1
            openWindow 1 99 1
            openWindow 2 99 1
            advance 1 -> 0
            advance 1 -> 3
            advance 3 -> 9
            advance 1 -> 0
            servedTotal -> 12
            # 10: not of those who walk out
            3 * addCustomer 1
            advance 20 -> 0
            walkedOutTotal -> 3
            # 10: all 12 customers in one call
            12 * addCustomer 30
            12 * callNext
            openWindow 1 99 1
            advance 20 -> 12
            customerCount -> 0
            """);
    }
}
