/** The boundary cases of promises 53 to 55 and of the section "Changes". */
final class UndoEdgesTest {
    private UndoEdgesTest() {
    }

    static void run() {
        depth();
        kindsOfChange();
        sameState();
        noChange();
        undoCovers();
        undoLeaves();
        restoreLeaves();
        save();
        restore();
        restoreCovers();
        undoAndSnapshot();
    }

    private static void depth() {
        Runs.check("""
            # 53: NoSuchElementException if there is nothing to undo
            undo -> throws.NoSuchElementException
            addCustomer 5
            undo -> 0
            undo -> throws.NoSuchElementException
            customerCount -> 0
            # 53: seven changes
            7 * addCustomer 5
            undo -> 6
            6 * undo -> 0
            undo -> throws.NoSuchElementException
            customerCount -> 0
            # 53: the latest 8 changes can be undone
            8 * addCustomer 5
            undo -> 7
            customerCount -> 7
            undo -> 6
            customerCount -> 6
            undo -> 5
            undo -> 4
            undo -> 3
            undo -> 2
            undo -> 1
            customerCount -> 1
            undo -> 0
            customerCount -> 0
            undo -> throws.NoSuchElementException
            # 53: of nine changes the first one stays
            9 * addCustomer 5
            undo -> 7
            7 * undo -> 0
            customerCount -> 1
            undo -> throws.NoSuchElementException
            # 53: of a hundred changes the latest 8
            100 * advance 1
            undo -> 7
            minute -> 99
            7 * undo -> 0
            minute -> 92
            undo -> throws.NoSuchElementException
            # 53: of ten changes, one by one
            10 * addCustomer 5
            undo -> 7
            queue -> 1 2 3 4 5 6 7 8 9
            undo -> 6
            queue -> 1 2 3 4 5 6 7 8
            undo -> 5
            queue -> 1 2 3 4 5 6 7
            undo -> 4
            queue -> 1 2 3 4 5 6
            undo -> 3
            queue -> 1 2 3 4 5
            undo -> 2
            queue -> 1 2 3 4
            undo -> 1
            queue -> 1 2 3
            undo -> 0
            queue -> 1 2
            # 53: of ten changes, with a prediction and refused calls behind them
            10 * addCustomer 5
            sighsWithin 60 -> 30
            addCustomer 31 -> throws.IllegalArgumentException
            advance 21 -> throws.IllegalArgumentException
            8 * undo -> 0
            queue -> 1 2
            # 53: of eight changes after ten, one by one
            10 * advance 1
            8 * addCustomer 5
            undo -> 7
            queue -> 1 2 3 4 5 6 7
            undo -> 6
            queue -> 1 2 3 4 5 6
            undo -> 5
            undo -> 4
            queue -> 1 2 3 4
            undo -> 3
            undo -> 2
            queue -> 1 2
            undo -> 1
            undo -> 0
            queue ->
            minute -> 10
            # 53: the latest one first
            addCustomer 5
            callNext
            sit 0
            advance 1
            undo -> 3
            queue -> 1!_
            minute -> 0
            undo -> 2
            queue -> 1!
            undo -> 1
            queue -> 1
            undo -> 0
            queue ->
            # 53: the latest change that has not been undone, behind a new change
            addCustomer 5
            addCustomer 6
            undo -> 1
            addCustomer 7
            patience 1 -> 7
            undo -> 1
            customerCount -> 1
            undo -> 0
            customerCount -> 0
            undo -> throws.NoSuchElementException
            # 53: the latest change that has not been undone, behind two new changes
            addCustomer 5
            addCustomer 6
            undo -> 1
            addCustomer 7
            addCustomer 8
            sighsWithin 60 -> 9
            undo -> 2
            queue -> 1 2
            patience 1 -> 7
            undo -> 1
            queue -> 1
            patience 0 -> 5
            undo -> 0
            queue ->
            # 53: an undo itself cannot be undone
            addCustomer 5
            undo -> 0
            undo -> throws.NoSuchElementException
            customerCount -> 0
            # 53: eight changes, one undone and one more
            8 * addCustomer 5
            undo -> 7
            addCustomer 9
            undo -> 7
            7 * undo -> 0
            undo -> throws.NoSuchElementException
            """);
    }

    private static void kindsOfChange() {
        String before = """
            5 * addCustomer 9
            2 * callNext
            sit 3
            openWindow 1 9 4
            advance 1
            openWindow 2 9 4
            """;
        String state = """
            windows -> 0:x 1:1/4 2:-
            queue -> 2! 3 4_ 5
            customer 0 -> ticket 1 patience 8 sighs 0 ache 0 waited 1 window 1 called
            customer 1 -> ticket 2 patience 8 sighs 0 ache 0 waited 1 position 0 called
            customer 3 -> ticket 4 patience 9 sighs 0 ache 1 waited 1 position 2 sits
            openingTimeLeft 1 -> 8
            openingTimeLeft 2 -> 9
            minute -> 1
            addedTotal -> 5
            servedTotal -> 0
            walkedOutTotal -> 0
            sighTotal -> 0
            servedTicket 0 -> throws.NoSuchElementException
            """;
        String[] changes = {"addCustomer 30", "openWindow 0 99 9", "closeWindow 1", "closeWindow 2", "callNext",
            "swap 1 4", "sit 1", "standUp 3", "remove 0", "remove 3", "advance 1", "advance 20",
            "script add 9;advance 20;add 1"};
        for (String change : changes) {
            Runs.check("# 53: a change is a call of " + change + "\n" + before + change + "\nundo -> 7\n" + state);
            Runs.check("# 55: everything is back after " + change + "\n" + before + "save -> 5\n" + change
                + "\nrestore -> 5\n" + state + "undo -> throws.NoSuchElementException");
        }
    }

    private static void sameState() {
        Runs.check("""
            # 53: a change even if the state is the same afterwards: a script
            2 * addCustomer 30
            script sit 0;stand 0 -> 2
            undo -> 2
            queue -> 1 2
            undo -> 1
            # 53: a change even if the state is the same afterwards: a window opened and closed
            script open 0 9 9;close 0 -> 2
            undo -> 0
            undo -> throws.NoSuchElementException
            # 53: such changes take the place of others
            addCustomer 30
            8 * script open 0 9 9;close 0
            8 * undo -> 0
            customerCount -> 1
            undo -> throws.NoSuchElementException
            """.replace("8 * script open 0 9 9;close 0", "script open 0 9 9;close 0\n".repeat(8)));
    }

    private static void noChange() {
        Runs.check("""
            # 53: refused calls are no changes
            addCustomer 31 -> throws.IllegalArgumentException
            openWindow 3 1 1 -> throws.IndexOutOfBoundsException
            openWindow 0 0 1 -> throws.IllegalArgumentException
            closeWindow 0 -> throws.IllegalStateException
            callNext -> throws.NoSuchElementException
            swap 0 0 -> throws.IndexOutOfBoundsException
            sit 0 -> throws.IndexOutOfBoundsException
            standUp 0 -> throws.IndexOutOfBoundsException
            remove 0 -> throws.IndexOutOfBoundsException
            advance 0 -> throws.IllegalArgumentException
            runScript -> throws.IllegalArgumentException
            restore -> throws.IllegalStateException
            undo -> throws.NoSuchElementException
            # 53: asking, rendering, typing and saving are no changes
            addCustomer 30
            minutesUntilWindow 0 -> throws.NoSuchElementException
            patienceAfter 0 5 -> 25
            sighsWithin 60 -> 3
            isConsistent -> true
            inversionsByBubbleSort -> 0
            renderQueue -> 1
            renderWindows -> 11
            types call -> 4
            save -> 1
            undo -> 0
            undo -> throws.NoSuchElementException
            customerCount -> 0
            """);
    }

    private static void undoCovers() {
        Runs.check("""
            # 53: the ticket counter is covered, so the number is given again
            addCustomer 5
            addCustomer 6
            undo -> 1
            addCustomer 7
            ticket 1 -> 2
            addedTotal -> 2
            # 53: served customers, their tickets and waiting times, and the calm ones are covered
            addCustomer 30
            addCustomer 1
            2 * callNext
            openWindow 0 99 1
            advance 2
            servedTicket 0 -> 1
            advance 1
            servedTotal -> 2
            servedTicket 0 -> 2
            servedTicket 1 -> 1
            servedWaitingTime 0 -> 2
            calmShare -> 0.5f
            undo
            servedTotal -> 1
            servedTicket 0 -> 1
            servedWaitingTime 0 -> 1
            servedTicket 1 -> throws.NoSuchElementException
            calmShare -> 1.0f
            undo
            servedTotal -> 0
            servedTicket 0 -> throws.NoSuchElementException
            calmShare -> throws.ArithmeticException
            # 53: more than six served customers
            8 * addCustomer 30
            8 * callNext
            openWindow 0 99 1
            advance 7
            servedTicket 5 -> 1
            advance 2
            servedTicket 5 -> 3
            undo
            servedTicket 0 -> 6
            servedTicket 5 -> 1
            servedTicket 6 -> throws.NoSuchElementException
            # 53: removed customers are covered
            2 * addCustomer 30
            remove 0
            undo
            customerCount -> 2
            isConsistent -> true
            # 53: customers who walked out, and sighs
            2 * addCustomer 1
            advance 3
            undo
            walkedOutTotal -> 0
            sighTotal -> 0
            customerCount -> 2
            sighs 0 -> 0
            """);
    }

    private static void undoLeaves() {
        Runs.check("""
            # 53: undo does not cover the script buffer
            addCustomer 5
            types ad
            addCustomer 6
            types d
            undo -> 1
            types  7 -> 5
            undo -> 0
            runScript -> 1
            patience 0 -> 7
            # 53: undo does not bring back a script that ran
            script add 5 -> 1
            undo -> 0
            type 97 -> 1
            # 53: undo does not cover the error position
            addCustomer 5
            script add x -> throws.IllegalArgumentException
            undo -> 0
            errorPosition -> 4
            # 53: undo does not cover the index of the failed command
            addCustomer 5
            script call;call -> throws.IllegalStateException
            undo -> 0
            failedCommand -> 1
            # 53: undo does not cover the output text
            addCustomer 5
            addCustomer 5
            renderQueue -> 3
            undo -> 1
            output -> 1 2
            undo -> 0
            output -> 1 2
            # 53: undo does not cover the snapshot
            addCustomer 5
            addCustomer 6
            save -> 2
            undo -> 1
            undo -> 0
            restore -> 2
            patience 1 -> 6
            """);
    }

    private static void restoreLeaves() {
        Runs.check("""
            # 55: the snapshot does not cover the script buffer
            types ad
            save -> 0
            types d 7 -> 5
            restore -> 0
            runScript -> 1
            patience 0 -> 7
            # 55: the snapshot does not bring back a script that ran
            types add 5
            save -> 0
            runScript -> 1
            restore -> 0
            type 97 -> 1
            # 55: the snapshot does not cover the error position
            save -> 0
            script add x -> throws.IllegalArgumentException
            restore -> 0
            errorPosition -> 4
            save -> 0
            script x -> throws.IllegalArgumentException
            restore -> 0
            errorPosition -> 0
            # 55: the snapshot does not cover the index of the failed command
            save -> 0
            script add 5;add 0 -> throws.IllegalStateException
            restore -> 0
            failedCommand -> 1
            save -> 0
            script add 0 -> throws.IllegalStateException
            restore -> 0
            failedCommand -> 0
            # 55: the snapshot does not cover the output text
            addCustomer 5
            renderQueue -> 1
            save -> 1
            renderWindows -> 11
            restore -> 1
            output -> 0:x 1:x 2:x
            """);
    }

    private static void save() {
        Runs.check("""
            # 54: the number of customers, 0, 1 and 12
            save -> 0
            addCustomer 5
            save -> 1
            11 * addCustomer 5
            save -> 12
            # 54: customers at windows count
            3 * addCustomer 30
            3 * callNext
            openWindow 0 9 9
            openWindow 1 9 9
            openWindow 2 9 9
            advance 1
            save -> 3
            queueLength -> 0
            # 54: a snapshot replaces an earlier one
            addCustomer 5
            save -> 1
            addCustomer 6
            save -> 2
            addCustomer 7
            restore -> 2
            patience 1 -> 6
            remove 0
            remove 0
            save -> 0
            addCustomer 8
            restore -> 0
            # 54: a snapshot changes nothing
            addCustomer 5
            addCustomer 6
            types add 9
            renderQueue -> 3
            save -> 2
            output -> 1 2
            runScript -> 1
            undo -> 2
            undo -> 1
            """);
    }

    private static void restore() {
        Runs.check("""
            # 55: IllegalStateException if there is no snapshot
            restore -> throws.IllegalStateException
            addCustomer 5
            restore -> throws.IllegalStateException
            undo -> 0
            save -> 0
            restore -> 0
            # 55: the snapshot is kept
            addCustomer 5
            save -> 1
            addCustomer 6
            restore -> 1
            advance 9
            restore -> 1
            patience 0 -> 5
            minute -> 0
            remove 0
            restore -> 1
            patience 0 -> 5
            # 55: a snapshot of an empty hall is one
            save -> 0
            addCustomer 5
            restore -> 0
            restore -> 0
            customerCount -> 0
            # 55: a full hall
            12 * addCustomer 30
            save -> 12
            6 * remove 0
            restore -> 12
            addCustomer 30 -> throws.IllegalStateException
            remove 0
            addCustomer 30 -> 11
            ticket 11 -> 13
            # 55: afterwards there is nothing to undo
            3 * addCustomer 5
            save -> 3
            3 * addCustomer 5
            restore -> 3
            undo -> throws.NoSuchElementException
            customerCount -> 3
            # 55: nothing to undo, of more than eight changes, and if nothing has changed
            12 * addCustomer 5
            save -> 12
            restore -> 12
            undo -> throws.NoSuchElementException
            """);
    }

    private static void restoreCovers() {
        Runs.check("""
            # 55: the ticket counter is covered, so the number is given again
            addCustomer 5
            save -> 1
            addCustomer 6
            restore -> 1
            addCustomer 7
            ticket 1 -> 2
            addedTotal -> 2
            # 55: the minute, the totals and the served customers are covered
            addCustomer 30
            addCustomer 1
            addCustomer 1
            2 * callNext
            openWindow 0 99 1
            advance 2
            save -> 2
            advance 1
            servedTotal -> 2
            walkedOutTotal -> 1
            restore -> 2
            minute -> 2
            servedTotal -> 1
            walkedOutTotal -> 0
            sighTotal -> 4
            servedTicket 0 -> 1
            servedTicket 1 -> throws.NoSuchElementException
            calmShare -> 1.0f
            # 55: removed customers are covered
            2 * addCustomer 30
            save -> 2
            remove 0
            restore -> 2
            isConsistent -> true
            addedTotal -> 2
            """);
    }

    private static void undoAndSnapshot() {
        Runs.check("""
            # 55: changes after a restored snapshot can be undone, up to it
            addCustomer 5
            save -> 1
            restore -> 1
            addCustomer 6
            addCustomer 7
            undo -> 1
            undo -> 0
            undo -> throws.NoSuchElementException
            customerCount -> 1
            # 55: eight changes after a restored snapshot
            12 * addCustomer 5
            save -> 12
            restore -> 12
            8 * remove 0
            undo -> 7
            7 * undo -> 0
            customerCount -> 12
            undo -> throws.NoSuchElementException
            # 55: changes after a restored snapshot do not reach the snapshot
            addCustomer 5
            save -> 1
            restore -> 1
            advance 3
            sit 0
            restore -> 1
            customer 0 -> ticket 1 patience 5 sighs 0 ache 0 waited 0 position 0
            # 55: a refused restore forgets no change
            3 * addCustomer 5
            restore -> throws.IllegalStateException
            undo -> 2
            # 54: a snapshot between changes, undone beyond it
            addCustomer 5
            save -> 1
            addCustomer 6
            undo -> 1
            undo -> 0
            customerCount -> 0
            restore -> 1
            patience 0 -> 5
            undo -> throws.NoSuchElementException
            """);
    }
}
