/** The boundary cases of promises 34 to 48: statistics, the check of the state and the output text. */
final class StatisticsEdgesTest {
    private StatisticsEdgesTest() {
    }

    static void run() {
        served();
        ranks();
        customerBySighs();
        customerByWaitingTime();
        totals();
        meanPatience();
        calmShare();
        isConsistent();
        renderQueue();
        renderWindows();
        outputAt();
    }

    private static void served() {
        Runs.check("""
            # 34 and 35: NoSuchElementException if no such served customer is remembered: none
            servedTicket 0 -> throws.NoSuchElementException
            servedTicket -1 -> throws.NoSuchElementException
            servedTicket 6 -> throws.NoSuchElementException
            servedTicket MIN -> throws.NoSuchElementException
            servedTicket MAX -> throws.NoSuchElementException
            servedWaitingTime 0 -> throws.NoSuchElementException
            servedWaitingTime -1 -> throws.NoSuchElementException
            servedWaitingTime 6 -> throws.NoSuchElementException
            servedWaitingTime MIN -> throws.NoSuchElementException
            servedWaitingTime MAX -> throws.NoSuchElementException
            # 34 and 35: those removed or walked out are not served
            2 * addCustomer 1
            remove 0
            advance 3
            servedTicket 0 -> throws.NoSuchElementException
            servedWaitingTime 0 -> throws.NoSuchElementException
            # 34 and 35: the only one
            addCustomer 30
            callNext
            openWindow 0 99 1
            advance 2
            servedTicket 0 -> 1
            servedWaitingTime 0 -> 1
            servedTicket 1 -> throws.NoSuchElementException
            servedWaitingTime 1 -> throws.NoSuchElementException
            # 34 and 35: a waiting time of more than one stay
            addCustomer 30
            advance 3
            callNext
            openWindow 0 2 9
            advance 4
            openWindow 0 99 1
            advance 2
            servedTicket 0 -> 1
            servedWaitingTime 0 -> 8
            """);
        servedOneByOne();
    }

    private static void servedOneByOne() {
        Runs.check("""
            # 34 and 35: the latest 6 served customers are remembered
            8 * addCustomer 30
            8 * callNext
            openWindow 0 99 1
            advance 6 -> 5
            servedTicket 0 -> 5
            servedTicket 4 -> 1
            servedWaitingTime 4 -> 1
            servedTicket 5 -> throws.NoSuchElementException
            servedWaitingTime 5 -> throws.NoSuchElementException
            advance 1 -> 1
            servedTicket 0 -> 6
            servedTicket 5 -> 1
            servedWaitingTime 5 -> 1
            servedTicket 6 -> throws.NoSuchElementException
            servedWaitingTime 6 -> throws.NoSuchElementException
            advance 1 -> 1
            servedTicket 0 -> 7
            servedTicket 1 -> 6
            servedTicket 4 -> 3
            servedTicket 5 -> 2
            servedWaitingTime 0 -> 7
            servedWaitingTime 5 -> 2
            servedTicket 6 -> throws.NoSuchElementException
            servedWaitingTime 6 -> throws.NoSuchElementException
            servedTicket -1 -> throws.NoSuchElementException
            servedWaitingTime -1 -> throws.NoSuchElementException
            servedTicket 7 -> throws.NoSuchElementException
            servedWaitingTime MAX -> throws.NoSuchElementException
            servedTicket MIN -> throws.NoSuchElementException
            """);
    }

    private static void ranks() {
        for (String name : new String[] {"36: customerBySighs", "37: customerByWaitingTime"}) {
            Runs.check("""
                # NAMED, NoSuchElementException if there is no such rank: an empty hall
                NAME 0 -> throws.NoSuchElementException
                NAME -1 -> throws.NoSuchElementException
                NAME MIN -> throws.NoSuchElementException
                NAME MAX -> throws.NoSuchElementException
                # NAMED: one customer
                addCustomer 30
                NAME 0 -> 0
                NAME 1 -> throws.NoSuchElementException
                NAME -1 -> throws.NoSuchElementException
                # NAMED: twelve customers with all the same, then by index in ascending order
                12 * addCustomer 30
                NAME 0 -> 0
                NAME 1 -> 1
                NAME 10 -> 10
                NAME 11 -> 11
                NAME 12 -> throws.NoSuchElementException
                NAME -1 -> throws.NoSuchElementException
                NAME MIN -> throws.NoSuchElementException
                NAME MAX -> throws.NoSuchElementException
                # NAMED: the position in the queue does not matter
                2 * addCustomer 30
                addCustomer 30
                swap 0 1
                advance 1
                swap 1 0
                NAME 2 -> 2
                """.replace("NAMED", name).replace("NAME", name.substring(4)));
        }
    }

    private static void customerBySighs() {
        Runs.check("""
            # 36: sighs in descending order come first
            addCustomer 9
            addCustomer 3
            addCustomer 1
            addCustomer 2
            advance 2
            customerBySighs 0 -> 2
            customerBySighs 1 -> 3
            customerBySighs 2 -> 1
            customerBySighs 3 -> 0
            # 36: more sighs come before less patience
            addCustomer 1
            addCustomer 2
            advance 2
            customer 0 -> ticket 1 patience 0 sighs 2 ache 0 waited 2 position 0
            customer 1 -> ticket 2 patience 0 sighs 1 ache 0 waited 2 position 1
            customerBySighs 0 -> 0
            customerBySighs 1 -> 1
            # 36: more sighs come before less patience and before a lower index
            addCustomer 2
            addCustomer 1
            advance 2
            sighs 0 -> 1
            sighs 1 -> 2
            customerBySighs 0 -> 1
            customerBySighs 1 -> 0
            # 36: a sigh comes before a patience of 0 without one
            addCustomer 2
            addCustomer 1
            sit 0
            advance 1
            swap 0 1 -> 1
            customer 0 -> ticket 1 patience 0 sighs 0 ache 1 waited 1 position 1 sits
            customer 1 -> ticket 2 patience 0 sighs 1 ache 0 waited 1 position 0
            customerBySighs 0 -> 1
            customerBySighs 1 -> 0
            # 36: then by patience in ascending order
            addCustomer 9
            addCustomer 8
            addCustomer 30
            addCustomer 1
            customerBySighs 0 -> 3
            customerBySighs 1 -> 1
            customerBySighs 2 -> 0
            customerBySighs 3 -> 2
            # 36: then by index in ascending order
            addCustomer 9
            addCustomer 8
            addCustomer 9
            addCustomer 8
            customerBySighs 0 -> 1
            customerBySighs 1 -> 3
            customerBySighs 2 -> 0
            customerBySighs 3 -> 2
            # 36: those at windows have ranks too
            2 * addCustomer 9
            callNext
            openWindow 0 9 9
            advance 3
            customerBySighs 0 -> 1
            customerBySighs 1 -> 0
            """);
    }

    private static void customerByWaitingTime() {
        Runs.check("""
            # 37: waiting time in descending order comes first
            addCustomer 30
            advance 1
            addCustomer 30
            callNext
            callNext
            openWindow 0 9 9
            advance 1
            closeWindow 0
            advance 1
            addCustomer 30
            waitingTime 0 -> 3
            waitingTime 1 -> 2
            waitingTime 2 -> 0
            customerByWaitingTime 0 -> 0
            customerByWaitingTime 1 -> 1
            customerByWaitingTime 2 -> 2
            # 37: then those whose tickets are not called before those whose tickets are called
            4 * addCustomer 30
            2 * callNext
            customerByWaitingTime 0 -> 2
            customerByWaitingTime 1 -> 3
            customerByWaitingTime 2 -> 0
            customerByWaitingTime 3 -> 1
            customerByWaitingTime 4 -> throws.NoSuchElementException
            # 37: a longer wait comes before a ticket that is not called
            addCustomer 30
            callNext
            advance 1
            addCustomer 30
            customerByWaitingTime 0 -> 0
            customerByWaitingTime 1 -> 1
            # 37: then by index in ascending order
            4 * addCustomer 30
            4 * callNext
            customerByWaitingTime 0 -> 0
            customerByWaitingTime 1 -> 1
            customerByWaitingTime 2 -> 2
            customerByWaitingTime 3 -> 3
            # 37: those at windows have ranks too, and wait no longer
            2 * addCustomer 30
            callNext
            openWindow 0 9 9
            advance 3
            customerByWaitingTime 0 -> 1
            customerByWaitingTime 1 -> 0
            """);
    }

    private static void totals() {
        Runs.check("""
            # 38: refused calls let no minute pass
            advance 0 -> throws.IllegalArgumentException
            advance 21 -> throws.IllegalArgumentException
            minute -> 0
            advance 20
            minute -> 20
            # 39: so far, with those who left
            addedTotal -> 0
            addCustomer 1
            addedTotal -> 1
            addCustomer 31 -> throws.IllegalArgumentException
            addedTotal -> 1
            remove 0
            addedTotal -> 1
            12 * addCustomer 1
            addedTotal -> 13
            addCustomer 1 -> throws.IllegalStateException
            addedTotal -> 13
            advance 3
            addedTotal -> 13
            # 40: more than the six who are remembered
            servedTotal -> 0
            12 * addCustomer 30
            12 * callNext
            openWindow 0 99 1
            advance 13
            servedTotal -> 12
            walkedOutTotal -> 0
            sighTotal -> 0
            # 41: not those removed or served
            walkedOutTotal -> 0
            3 * addCustomer 1
            callNext
            openWindow 0 99 1
            remove 2
            advance 2
            servedTotal -> 1
            walkedOutTotal -> 0
            advance 1
            walkedOutTotal -> 1
            # 42: including those of customers who left the hall: walked out, served and removed
            sighTotal -> 0
            3 * addCustomer 1
            callNext
            openWindow 0 99 1
            advance 1
            sighTotal -> 3
            remove 2
            sighTotal -> 3
            advance 1
            sighTotal -> 4
            customerCount -> 1
            advance 1
            customerCount -> 0
            sighTotal -> 5
            """);
    }

    private static void meanPatience() {
        Runs.check("""
            # 43: ArithmeticException if the hall is empty
            meanPatience -> throws.ArithmeticException
            addCustomer 1
            meanPatience -> 1.0
            remove 0
            meanPatience -> throws.ArithmeticException
            # 43: the sum divided by the number, not rounded
            addCustomer 1
            addCustomer 2
            meanPatience -> 1.5
            addCustomer 2
            meanPatience -> 1.6666666666666667
            # 43: the mean of 12 customers
            11 * addCustomer 30
            addCustomer 29
            meanPatience -> 29.916666666666668
            # 43: a mean of 0 in a hall that is not empty
            2 * addCustomer 1
            advance 1
            meanPatience -> 0.0
            # 43: those at windows are in the hall
            addCustomer 30
            addCustomer 20
            callNext
            openWindow 0 9 9
            advance 5
            meanPatience -> 22.0
            # 43: all at windows
            addCustomer 30
            callNext
            openWindow 0 9 9
            advance 1
            queueLength -> 0
            meanPatience -> 29.0
            """);
    }

    private static void calmShare() {
        Runs.check("""
            # 44: ArithmeticException if no customer has been served
            calmShare -> throws.ArithmeticException
            addCustomer 1
            calmShare -> throws.ArithmeticException
            advance 3
            walkedOutTotal -> 1
            calmShare -> throws.ArithmeticException
            # 44: all never sighed, and one sighed
            addCustomer 30
            addCustomer 2
            2 * callNext
            openWindow 0 99 1
            advance 2
            calmShare -> 1.0f
            advance 1
            servedTotal -> 2
            calmShare -> 0.5f
            # 44: none, of those who sighed twice
            addCustomer 1
            callNext
            advance 1
            openWindow 0 99 1
            advance 2
            servedTotal -> 1
            calmShare -> 0.0f
            # 44: two thirds, as a float
            addCustomer 1
            2 * addCustomer 30
            3 * callNext
            openWindow 0 99 1
            advance 4
            calmShare -> 0.6666667f
            # 44: of all so far, not only of the six who are remembered
            addCustomer 1
            6 * addCustomer 30
            7 * callNext
            openWindow 0 99 1
            advance 8
            servedTotal -> 7
            calmShare -> 0.85714287f
            # 44: those in the hall do not count
            2 * addCustomer 1
            addCustomer 30
            swap 0 2 -> throws.UnsupportedOperationException
            sit 0
            callNext
            openWindow 0 99 1
            advance 2
            servedTotal -> 1
            sighs 0 -> 2
            calmShare -> 1.0f
            """);
    }

    private static void isConsistent() {
        Runs.check("""
            # 45: in an empty hall, a full hall, a hall that everybody has left
            isConsistent -> true
            12 * addCustomer 1
            isConsistent -> true
            addCustomer 1 -> throws.IllegalStateException
            isConsistent -> true
            6 * callNext
            openWindow 0 99 1
            openWindow 2 2 9
            swap 10 11 -> throws.UnsupportedOperationException
            advance 1
            isConsistent -> true
            remove 5
            isConsistent -> true
            advance 1
            isConsistent -> true
            advance 1
            isConsistent -> true
            customerCount -> 0
            servedTotal -> 2
            walkedOutTotal -> 9
            # 45: after undo and restore
            3 * addCustomer 5
            save
            remove 0
            undo
            isConsistent -> true
            remove 2
            restore
            isConsistent -> true
            """);
    }

    private static void renderQueue() {
        Runs.check("""
            # 46: the text is empty if the queue is empty
            renderQueue -> 0
            output ->
            # 46: also if somebody is at a window, and a text was there
            addCustomer 30
            renderQueue -> 1
            output -> 1
            callNext
            renderQueue -> 2
            output -> 1!
            sit 0
            renderQueue -> 3
            output -> 1!_
            openWindow 0 9 9
            advance 1
            output -> 1!_
            renderQueue -> 0
            output ->
            # 46: as in "3! 5_ 4"
            5 * addCustomer 30
            swap 3 4
            remove 0
            remove 0
            sit 2
            callNext -> 3
            queue -> 3! 5_ 4
            renderQueue -> 7
            # 46: a full queue with four who sit
            12 * addCustomer 30
            12 * callNext
            sit 0
            sit 1
            sit 10
            sit 11
            renderQueue -> 42
            output -> 1!_ 2!_ 3! 4! 5! 6! 7! 8! 9! 10! 11!_ 12!_
            # 46: ticket numbers of three digits
            99 * addCustomer 30 / remove 0
            addCustomer 30
            renderQueue -> 3
            output -> 100
            """);
    }

    private static void renderWindows() {
        Runs.check("""
            # 47: all closed
            renderWindows -> 11
            output -> 0:x 1:x 2:x
            # 47: all open and empty
            openWindow 0 9 9
            openWindow 1 9 9
            openWindow 2 9 9
            renderWindows -> 11
            output -> 0:- 1:- 2:-
            # 47: all with a customer
            3 * addCustomer 30
            3 * callNext
            openWindow 0 99 1
            openWindow 1 99 9
            openWindow 2 99 5
            advance 1
            renderWindows -> 17
            output -> 0:1/1 1:2/9 2:3/5
            advance 1
            renderWindows -> 15
            output -> 0:- 1:2/8 2:3/4
            # 47: as in "0:12/3 1:- 2:x"
            11 * addCustomer 30 / remove 0
            addCustomer 30
            callNext -> 12
            openWindow 0 9 3
            openWindow 1 9 9
            advance 1
            renderWindows -> 14
            output -> 0:12/3 1:- 2:x
            # 47: a window that the time has closed
            openWindow 1 1 1
            windows -> 0:x 1:- 2:x
            advance 1
            windows -> 0:x 1:x 2:x
            """);
    }

    private static void outputAt() {
        Runs.check("""
            # 48: the output text is empty initially
            outputAt 0 -> throws.IndexOutOfBoundsException
            outputAt -1 -> throws.IndexOutOfBoundsException
            outputAt MIN -> throws.IndexOutOfBoundsException
            outputAt MAX -> throws.IndexOutOfBoundsException
            # 48: IndexOutOfBoundsException if there is no such index
            renderWindows -> 11
            outputAt -1 -> throws.IndexOutOfBoundsException
            outputAt 0 -> '0'
            outputAt 3 -> ' '
            outputAt 10 -> 'x'
            outputAt 11 -> throws.IndexOutOfBoundsException
            outputAt MIN -> throws.IndexOutOfBoundsException
            outputAt MAX -> throws.IndexOutOfBoundsException
            # 48: a shorter text replaces a longer one
            addCustomer 30
            renderWindows -> 11
            renderQueue -> 1
            outputAt 0 -> '1'
            outputAt 1 -> throws.IndexOutOfBoundsException
            outputAt 10 -> throws.IndexOutOfBoundsException
            remove 0
            outputAt 0 -> '1'
            renderQueue -> 0
            outputAt 0 -> throws.IndexOutOfBoundsException
            # 48: the text stays as it is until it is replaced
            2 * addCustomer 30
            renderQueue -> 3
            remove 0
            advance 3
            callNext
            output -> 1 2
            renderQueue -> 2
            output -> 2!
            """);
    }
}
