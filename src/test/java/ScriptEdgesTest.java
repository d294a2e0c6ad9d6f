/** The boundary cases of promises 49 to 52 and of the section "Scripts". */
final class ScriptEdgesTest {
    private static final String SIXTY = "call;call;call;call;call;call;call;call;call;call;call;add 1";

    private ScriptEdgesTest() {
    }

    static void run() {
        type();
        fullBuffer();
        forms();
        commands();
        numbers();
        wrongForms();
        formBeforeCommands();
        failures();
        limitsInScripts();
        allOrNothing();
        latest();
    }

    private static void type() {
        Runs.check("""
            # 49: IllegalArgumentException if the character code is not between 32 and 126
            type 31 -> throws.IllegalArgumentException
            type 127 -> throws.IllegalArgumentException
            type 0 -> throws.IllegalArgumentException
            type 10 -> throws.IllegalArgumentException
            type 128 -> throws.IllegalArgumentException
            type 255 -> throws.IllegalArgumentException
            type 256 -> throws.IllegalArgumentException
            type 288 -> throws.IllegalArgumentException
            type 65535 -> throws.IllegalArgumentException
            type 32 -> 1
            type 126 -> 2
            type 31 -> throws.IllegalArgumentException
            type 127 -> throws.IllegalArgumentException
            type 33 -> 3
            type 125 -> 4
            # 49: every character from 32 to 126 can be typed
            types !"#$%&'()*+,-./0123456789:;<=>?@ABCDEFGHIJKLMNOPQRSTUVWXYZ -> 58
            type 32 -> 59
            runScript -> throws.IllegalArgumentException
            types [\\]^_`abcdefghijklmnopqrstuvwxyz{|}~ -> 36
            """);
    }

    private static void fullBuffer() {
        Runs.check("""
            # 49: IllegalStateException if the script buffer has 60 characters
            58 * type 97 -> 58
            type 97 -> 59
            type 97 -> 60
            type 97 -> throws.IllegalStateException
            type 32 -> throws.IllegalStateException
            type 126 -> throws.IllegalStateException
            runScript -> throws.IllegalArgumentException
            type 97 -> 1
            # 49: IllegalArgumentException before IllegalStateException
            60 * type 97 -> 60
            type 31 -> throws.IllegalArgumentException
            type 127 -> throws.IllegalArgumentException
            type 97 -> throws.IllegalStateException
            # 49: a refused character is not in the script
            types cal
            type 31 -> throws.IllegalArgumentException
            type 127 -> throws.IllegalArgumentException
            type 108 -> 4
            addCustomer 30
            runScript -> 1
            isCalled 0 -> true
            # 49 and 50: a script of 60 characters
            11 * addCustomer 30
            types SIXTY -> 60
            type 32 -> throws.IllegalStateException
            runScript -> 12
            customerCount -> 12
            isCalled 10 -> true
            type 32 -> 1
            # 49 and 50: a script of 59 characters, and the semicolon too many
            12 * addCustomer 30
            script call;call;call;call;call;call;call;call;call;call;call;call -> 12
            script call;call;call;call;call;call;call;call;call;call;call;call; -> throws.IllegalArgumentException
            errorPosition -> 60
            # 49: the buffer is empty after a script that ran, that had a wrong form, that failed, and an empty one
            script add 9 -> 1
            type 32 -> 1
            runScript -> throws.IllegalArgumentException
            type 32 -> 1
            runScript -> throws.IllegalArgumentException
            script add 0 -> throws.IllegalStateException
            type 32 -> 1
            runScript -> throws.IllegalArgumentException
            runScript -> throws.IllegalArgumentException
            type 32 -> 1
            """.replace("SIXTY", SIXTY));
    }

    private static void forms() {
        Runs.check("""
            # 50: each command, with one digit and with two
            script add 9 -> 1
            script add 30 -> 1
            script open 2 9 9 -> 1
            script open 0 99 1 -> 1
            script close 2 -> 1
            script call -> 1
            script swap 1 0 -> 1
            script swap 01 00 -> 1
            script sit 1 -> 1
            script stand 01 -> 1
            script sit 01 -> 1
            script stand 1 -> 1
            script advance -> 1
            script advance 1 -> 1
            script advance 20 -> 1
            script remove 0 -> 1
            addedTotal -> 2
            minute -> 22
            # 50: a script is empty, or only a semicolon, or begins or ends with one
            script -> throws.IllegalArgumentException
            errorPosition -> 0
            script ; -> throws.IllegalArgumentException
            errorPosition -> 0
            script ;add 9 -> throws.IllegalArgumentException
            errorPosition -> 0
            script add 9; -> throws.IllegalArgumentException
            errorPosition -> 6
            script add 9;;add 9 -> throws.IllegalArgumentException
            errorPosition -> 6
            customerCount -> 0
            # 50: spaces where none may be
            script  add 9 -> throws.IllegalArgumentException
            errorPosition -> 0
            script add  9 -> throws.IllegalArgumentException
            errorPosition -> 4
            script add 9 ;call -> throws.IllegalArgumentException
            errorPosition -> 5
            script add 9; call -> throws.IllegalArgumentException
            errorPosition -> 6
            script call  -> throws.IllegalArgumentException
            errorPosition -> 4
            customerCount -> 0
            """);
    }

    private static void commands() {
        Runs.check("""
            # 50: the number of commands, 1 to 12
            script add 9 -> 1
            script add 9;call -> 2
            script add 9;call;sit 0 -> 3
            script advance;advance;advance;advance;advance;advance;advance -> 7
            script add 9;add 9;add 9;add 9;add 9;add 9;add 9;add 9 -> 8
            # 50: the commands are executed in order
            script add 9;sit 0;call;open 0 5 2;advance;remove 0;add 7 -> 7
            customer 0 -> ticket 2 patience 7 sighs 0 ache 0 waited 0 position 0
            windows -> 0:- 1:x 2:x
            minute -> 1
            # 50: the numbers are the arguments in their order
            script add 30;add 20;add 10;open 2 45 6;swap 2 1 -> 5
            openingTimeLeft 2 -> 45
            pace 2 -> 6
            queue -> 1 3 2
            patience 0 -> 30
            patience 1 -> 18
            patience 2 -> 10
            # 50: advance without a number passes 1 minute
            script advance -> 1
            minute -> 1
            script advance 2 -> 1
            minute -> 3
            script advance 02 -> 1
            minute -> 5
            script advance;advance 3;advance -> 3
            minute -> 10
            """);
    }

    private static void numbers() {
        Runs.check("""
            # 50: a number has one digit or two, leading zeros too
            script add 1 -> 1
            script add 01 -> 1
            script add 09 -> 1
            patience 0 -> 1
            patience 1 -> 1
            patience 2 -> 9
            script add 001 -> throws.IllegalArgumentException
            errorPosition -> 6
            script add 100 -> throws.IllegalArgumentException
            errorPosition -> 6
            script add  -> throws.IllegalArgumentException
            errorPosition -> 4
            script add -1 -> throws.IllegalArgumentException
            errorPosition -> 4
            script add +1 -> throws.IllegalArgumentException
            errorPosition -> 4
            script add 1x -> throws.IllegalArgumentException
            errorPosition -> 5
            # 50: the window and the pace have one digit
            script open 00 5 5 -> throws.IllegalArgumentException
            errorPosition -> 6
            script open 0 5 05 -> throws.IllegalArgumentException
            errorPosition -> 10
            script open 0 05 5 -> 1
            script close 00 -> throws.IllegalArgumentException
            errorPosition -> 7
            script open 1 005 5 -> throws.IllegalArgumentException
            errorPosition -> 9
            # 51: the characters next to the digits are none
            script add / -> throws.IllegalArgumentException
            errorPosition -> 4
            script add : -> throws.IllegalArgumentException
            errorPosition -> 4
            script add 1/ -> throws.IllegalArgumentException
            errorPosition -> 5
            script add 1: -> throws.IllegalArgumentException
            errorPosition -> 5
            script add 1;call: -> throws.IllegalArgumentException
            errorPosition -> 10
            script open 0/5 5 -> throws.IllegalArgumentException
            errorPosition -> 6
            """);
    }

    private static void wrongForms() {
        Runs.check("""
            # 51: the index of the first character that cannot continue any script
            script x -> throws.IllegalArgumentException
            errorPosition -> 0
            script Add 9 -> throws.IllegalArgumentException
            errorPosition -> 0
            script ax -> throws.IllegalArgumentException
            errorPosition -> 1
            script advice -> throws.IllegalArgumentException
            errorPosition -> 3
            script addance -> throws.IllegalArgumentException
            errorPosition -> 3
            script clall -> throws.IllegalArgumentException
            errorPosition -> 2
            script cose -> throws.IllegalArgumentException
            errorPosition -> 1
            script stit 1 -> throws.IllegalArgumentException
            errorPosition -> 2
            script sitand 1 -> throws.IllegalArgumentException
            errorPosition -> 3
            script swit 1 -> throws.IllegalArgumentException
            errorPosition -> 2
            # 51: the first character behind a command
            script callx -> throws.IllegalArgumentException
            errorPosition -> 4
            script advance1 -> throws.IllegalArgumentException
            errorPosition -> 7
            script advance 123 -> throws.IllegalArgumentException
            errorPosition -> 10
            script swap 12 34 -> throws.IllegalStateException
            script swap 12 345 -> throws.IllegalArgumentException
            errorPosition -> 10
            script swap 123 4 -> throws.IllegalArgumentException
            errorPosition -> 7
            script call 1 -> throws.IllegalArgumentException
            errorPosition -> 4
            script add 9;add 9;ad 9 -> throws.IllegalArgumentException
            errorPosition -> 14
            # 51: the length if the end comes too early
            script a -> throws.IllegalArgumentException
            errorPosition -> 1
            script add -> throws.IllegalArgumentException
            errorPosition -> 3
            script adv -> throws.IllegalArgumentException
            errorPosition -> 3
            script advance  -> throws.IllegalArgumentException
            errorPosition -> 8
            script s -> throws.IllegalArgumentException
            errorPosition -> 1
            script st -> throws.IllegalArgumentException
            errorPosition -> 2
            # 51: the length if the end comes too early, behind the first number
            script swap 1 -> throws.IllegalArgumentException
            errorPosition -> 6
            script swap 1  -> throws.IllegalArgumentException
            errorPosition -> 7
            script open 0 99  -> throws.IllegalArgumentException
            errorPosition -> 10
            script open 0 99 -> throws.IllegalArgumentException
            errorPosition -> 9
            script close  -> throws.IllegalArgumentException
            errorPosition -> 6
            script call; -> throws.IllegalArgumentException
            errorPosition -> 5
            script call;c -> throws.IllegalArgumentException
            errorPosition -> 6
            # 51: 60 characters that begin a script
            11 * addCustomer 30
            script SIXTY -> 12
            errorPosition -> throws.NoSuchElementException
            # 51: 60 characters, and the end comes too early
            script call;call;call;call;call;call;call;call;call;call;call;remov -> throws.IllegalArgumentException
            errorPosition -> 60
            # 51: 60 characters, and the last one is wrong
            script call;call;call;call;call;call;call;call;call;call;call;remox -> throws.IllegalArgumentException
            errorPosition -> 59
            """.replace("SIXTY", SIXTY));
    }

    private static void formBeforeCommands() {
        Runs.check("""
            # 50: IllegalArgumentException before IllegalStateException
            script add 0;x -> throws.IllegalArgumentException
            errorPosition -> 6
            failedCommand -> throws.NoSuchElementException
            script remove 0; -> throws.IllegalArgumentException
            errorPosition -> 9
            failedCommand -> throws.NoSuchElementException
            script callx;call -> throws.IllegalArgumentException
            errorPosition -> 4
            failedCommand -> throws.NoSuchElementException
            # 50: no command of a script with a wrong form takes effect
            script add 9;add 9;x -> throws.IllegalArgumentException
            customerCount -> 0
            undo -> throws.NoSuchElementException
            """);
    }

    private static void failures() {
        Runs.check("""
            # 52: addCustomer: the patience, the full hall
            script add 0 -> throws.IllegalStateException
            failedCommand -> 0
            script add 1;add 31 -> throws.IllegalStateException
            failedCommand -> 1
            11 * addCustomer 30
            script add 30;add 30 -> throws.IllegalStateException
            failedCommand -> 1
            customerCount -> 11
            script add 30 -> 1
            # 52: openWindow and closeWindow
            script open 3 1 1 -> throws.IllegalStateException
            failedCommand -> 0
            script open 0 1 1;open 9 1 1 -> throws.IllegalStateException
            failedCommand -> 1
            script open 0 0 1 -> throws.IllegalStateException
            script open 0 1 0 -> throws.IllegalStateException
            failedCommand -> 0
            script open 0 99 9;open 0 99 9 -> throws.IllegalStateException
            failedCommand -> 1
            script close 0 -> throws.IllegalStateException
            failedCommand -> 0
            script open 0 1 1;close 0;close 0 -> throws.IllegalStateException
            failedCommand -> 2
            script open 2 1 1;close 3 -> throws.IllegalStateException
            failedCommand -> 1
            windows -> 0:x 1:x 2:x
            # 52: callNext: an empty hall, all called
            script call -> throws.IllegalStateException
            failedCommand -> 0
            script add 9;call;call -> throws.IllegalStateException
            failedCommand -> 2
            # 52: swap: all four exceptions
            script swap 0 1 -> throws.IllegalStateException
            failedCommand -> 0
            script add 9;swap 0 0 -> throws.IllegalStateException
            failedCommand -> 1
            script add 9;add 9;call;open 0 9 9;advance;swap 0 1 -> throws.IllegalStateException
            failedCommand -> 5
            script add 1;add 9;swap 0 1 -> throws.IllegalStateException
            failedCommand -> 2
            # 52: sit: all three exceptions
            script sit 0 -> throws.IllegalStateException
            failedCommand -> 0
            script add 9;sit 0;sit 0 -> throws.IllegalStateException
            failedCommand -> 2
            5 * addCustomer 30
            script sit 0;sit 1;sit 2;sit 3;sit 4 -> throws.IllegalStateException
            failedCommand -> 4
            isSitting 0 -> false
            # 52: standUp, remove and advance
            script stand 0 -> throws.IllegalStateException
            failedCommand -> 0
            script add 9;stand 0 -> throws.IllegalStateException
            failedCommand -> 1
            script add 9;remove 0;remove 0 -> throws.IllegalStateException
            failedCommand -> 2
            script advance 0 -> throws.IllegalStateException
            failedCommand -> 0
            script advance;advance 21 -> throws.IllegalStateException
            failedCommand -> 1
            script advance 99 -> throws.IllegalStateException
            failedCommand -> 0
            minute -> 0
            """);
    }

    private static void limitsInScripts() {
        Runs.check("""
            # 50: what is just allowed, and what is not
            script add 1;add 30 -> 2
            script add 00 -> throws.IllegalStateException
            script open 0 1 1;open 1 99 9 -> 2
            script open 2 00 9 -> throws.IllegalStateException
            script advance 20 -> 1
            script advance 00 -> throws.IllegalStateException
            minute -> 20
            # 50: the indices 11 and 12
            12 * addCustomer 30
            script sit 11;stand 11;swap 11 0 -> 3
            script sit 12 -> throws.IllegalStateException
            script swap 12 0 -> throws.IllegalStateException
            script remove 12 -> throws.IllegalStateException
            script remove 11 -> 1
            # 50: an exact 12 commands, of which the last one fails
            11 * addCustomer 30
            script call;call;call;call;call;call;call;call;call;call;call;call -> throws.IllegalStateException
            failedCommand -> 11
            isCalled 0 -> false
            """);
    }

    private static void allOrNothing() {
        Runs.check("""
            # 50: either all commands take effect or none
            addCustomer 30
            script add 9;call;open 0 9 9;sit 0;advance 9;remove 1;close 1 -> throws.IllegalStateException
            failedCommand -> 6
            customer 0 -> ticket 1 patience 30 sighs 0 ache 0 waited 0 position 0
            customerCount -> 1
            windows -> 0:x 1:x 2:x
            minute -> 0
            addedTotal -> 1
            addCustomer 30
            ticket 1 -> 2
            # 50: a script is one change, a refused script is none
            script add 5;add 6;add 7 -> 3
            script add 5;add 0 -> throws.IllegalStateException
            script add 5;add -> throws.IllegalArgumentException
            undo -> 0
            customerCount -> 0
            undo -> throws.NoSuchElementException
            # 50: a refused script forgets no change
            8 * addCustomer 30
            script add 5;add 0 -> throws.IllegalStateException
            script x -> throws.IllegalArgumentException
            undo -> 7
            7 * undo -> 0
            customerCount -> 0
            """);
    }

    private static void latest() {
        Runs.check("""
            # 51: NoSuchElementException if there was no such script
            errorPosition -> throws.NoSuchElementException
            script add 9 -> 1
            errorPosition -> throws.NoSuchElementException
            script add 0 -> throws.IllegalStateException
            errorPosition -> throws.NoSuchElementException
            # 52: NoSuchElementException if there was no such script
            failedCommand -> throws.NoSuchElementException
            script add 9 -> 1
            failedCommand -> throws.NoSuchElementException
            script add x -> throws.IllegalArgumentException
            failedCommand -> throws.NoSuchElementException
            # 51: the latest script that did not have the form, whatever came after it
            script add x -> throws.IllegalArgumentException
            errorPosition -> 4
            script add 9 -> 1
            errorPosition -> 4
            script add 0 -> throws.IllegalStateException
            errorPosition -> 4
            script x -> throws.IllegalArgumentException
            errorPosition -> 0
            # 52: the latest script with a failed command, whatever came after it
            script add 9;add 0 -> throws.IllegalStateException
            failedCommand -> 1
            script add 9 -> 1
            failedCommand -> 1
            script x -> throws.IllegalArgumentException
            failedCommand -> 1
            script add 0 -> throws.IllegalStateException
            failedCommand -> 0
            """);
    }
}
