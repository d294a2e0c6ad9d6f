/**
 * What can be seen of an object. Most looks change something or need many calls, so each is taken on an object of
 * its own.
 */
enum Look {
    /** The output text as the last call left it. */
    OUTPUT {
        @Override
        String at(Told told) {
            return told.answer("output");
        }
    },
    /** All that undo and the snapshot cover. */
    HALL {
        @Override
        String at(Told told) {
            return hall(told);
        }
    },
    /** The changes that can be undone. */
    PAST {
        @Override
        String at(Told told) {
            return past(told);
        }
    },
    SNAPSHOT {
        @Override
        String at(Told told) {
            String customers = told.answer("restore");
            return customers.startsWith("throws.") ? customers
                : customers + ' ' + brief(told) + " undo " + told.answer("undo");
        }
    },
    BUFFER_LENGTH {
        @Override
        String at(Told told) {
            return told.answer("type 32");
        }
    },
    BUFFER_TEXT {
        @Override
        String at(Told told) {
            return told.answer("runScript") + ' ' + told.answer("errorPosition") + ' ' + told.answer("failedCommand")
                + ' ' + brief(told);
        }
    },
    ERROR_POSITION {
        @Override
        String at(Told told) {
            return told.answer("errorPosition");
        }
    },
    FAILED_COMMAND {
        @Override
        String at(Told told) {
            return told.answer("failedCommand");
        }
    };

    private static final String[] ABOUT_A_NUMBER = {"ticket", "patience", "sighs", "ache", "waitingTime", "isCalled",
        "isSitting", "position", "windowOfCustomer", "customerAtPosition", "calledAhead", "calledAheadByPositions",
        "minutesUntilWindow", "customerBySighs", "customerByWaitingTime"};
    private static final String[] ABOUT_A_WINDOW = {"openingTimeLeft", "pace", "customerAtWindow", "serviceTimeLeft"};
    private static final String[] ABOUT_ALL = {"customerCount", "queueLength", "inversions", "inversionsByBubbleSort",
        "minute", "addedTotal", "servedTotal", "walkedOutTotal", "sighTotal", "meanPatience", "calmShare",
        "isConsistent"};

    abstract String at(Told told);

    private static String hall(Told told) {
        StringBuilder text = new StringBuilder();
        ask(told, text, "", ABOUT_ALL);
        int customers = Integer.parseInt(told.answer("customerCount"));
        for (int i = -1; i <= customers; i++) {
            ask(told, text, " " + i, ABOUT_A_NUMBER);
            ask(told, text, " " + i + " 4", "patienceAfter");
        }
        for (int i = -1; i <= 3; i++) {
            ask(told, text, " " + i, ABOUT_A_WINDOW);
        }
        for (int i = -1; i <= 6; i++) {
            ask(told, text, " " + i, "servedTicket", "servedWaitingTime");
        }
        ask(told, text, " 3", "sighsWithin");
        ask(told, text, " 60", "sighsWithin");
        ask(told, text, "", "queue", "windows");
        return text.toString();
    }

    private static void ask(Told told, StringBuilder text, String arguments, String... names) {
        for (String name : names) {
            text.append(name).append(arguments).append(' ').append(told.answer(name + arguments)).append('\n');
        }
    }

    private static String past(Told told) {
        StringBuilder text = new StringBuilder(brief(told));
        String left = told.answer("undo");
        while (!left.startsWith("throws.")) {
            text.append('\n').append(left).append(' ').append(brief(told));
            left = told.answer("undo");
        }
        return text.append('\n').append(left).toString();
    }

    /** Few calls that hardly answer the same for two states. */
    private static String brief(Told told) {
        StringBuilder text = new StringBuilder();
        for (String name : ABOUT_ALL) {
            text.append(told.answer(name)).append(' ');
        }
        for (int i = 0; i < 3; i++) {
            text.append(told.answer("openingTimeLeft " + i)).append(' ');
        }
        text.append(told.answer("renderQueue")).append(' ').append(told.answer("renderWindows")).append(' ')
            .append(told.answer("sighsWithin 9")).append(' ').append(told.answer("customerByWaitingTime 0")).append(' ')
            .append(told.answer("customerAtPosition 0")).append(' ').append(told.answer("servedTicket 0"));
        return text.toString();
    }
}
