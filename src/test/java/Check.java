/** Counts the answers that are not due and prints them. */
final class Check {
    /** A call that is expected to throw. */
    interface Call {
        void run();
    }

    private static int checks = 0;
    private static int wrong = 0;

    private Check() {
    }

    static void same(String what, long got, long due) {
        report(what, got == due, Long.toString(got), Long.toString(due));
    }

    static void same(String what, boolean got, boolean due) {
        report(what, got == due, Boolean.toString(got), Boolean.toString(due));
    }

    static void same(String what, String got, String due) {
        report(what, got.equals(due), got, due);
    }

    static void sameDouble(String what, double got, double due) {
        report(what, got == due, Double.toString(got), Double.toString(due));
    }

    static void sameFloat(String what, float got, float due) {
        report(what, got == due, Float.toString(got), Float.toString(due));
    }

    /** The class must be the very one: the machine's own exceptions are below the document's. */
    static void refuses(String what, Class<? extends RuntimeException> due, Call call) {
        String got = "nothing thrown";
        try {
            call.run();
        } catch (RuntimeException e) {
            got = e.getClass().getName();
        }
        report(what, got.equals(due.getName()), got, due.getName());
    }

    static int finish() {
        System.out.println(checks + " checks, " + wrong + " wrong");
        return wrong == 0 ? 0 : 1;
    }

    private static void report(String what, boolean right, String got, String due) {
        checks++;
        if (!right) {
            wrong++;
            if (wrong <= 100) {
                System.out.println("WRONG " + what + ": got " + got + ", due is " + due);
            }
        }
    }
}
