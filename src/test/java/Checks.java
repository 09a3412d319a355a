/** Counts the answers that are not as due, and ends a test's program by them. */
final class Checks {
    interface Call {
        Object run();
    }

    interface Act {
        void run();
    }

    /** Far more than any test takes. */
    private static final long MOST_MILLISECONDS = 600_000;

    private int made = 0;
    private int wrong = 0;

    Checks() {
        Thread watch = new Thread(Checks::failWhenItDoesNotEnd);
        watch.setDaemon(true);
        watch.start();
    }

    /** A call that does not end is wrong too. */
    private static void failWhenItDoesNotEnd() {
        try {
            Thread.sleep(MOST_MILLISECONDS);
            System.out.println("a call does not end");
            Runtime.getRuntime().halt(1);
        } catch (InterruptedException e) {
            Thread.currentThread().interrupt();
        }
    }

    void same(String what, Object due, Object got) {
        made++;
        if (!due.equals(got)) {
            wrong++;
            System.out.println(what + ": answered " + got + ", due is " + due);
        }
    }

    void answers(String what, Object due, Call call) {
        same(what, due, outcome(call));
    }

    void done(String what, Act act) {
        same(what, "done", outcomeOf(act));
    }

    void unknown(String what, Act act) {
        same(what, "throws.IllegalArgumentException", outcomeOf(act));
    }

    void range(String what, Act act) {
        same(what, "throws.IndexOutOfBoundsException", outcomeOf(act));
    }

    void state(String what, Act act) {
        same(what, "throws.IllegalStateException", outcomeOf(act));
    }

    void noRoom(String what, Act act) {
        same(what, "throws.UnsupportedOperationException", outcomeOf(act));
    }

    void end(String test) {
        System.out.println(test + ": " + made + " checks, " + wrong + " wrong");
        if (wrong != 0) {
            System.exit(1);
        }
    }

    private static Object outcomeOf(Act act) {
        return outcome(() -> {
            act.run();
            return "done";
        });
    }

    /** The exception's own class counts: what the machine throws is often of a class below the due one. */
    private static Object outcome(Call call) {
        try {
            return call.run();
        } catch (RuntimeException e) {
            return "throws." + e.getClass().getSimpleName();
        }
    }
}
