import java.util.Objects;

/** Counts what was checked, prints what is not as due, and ends the test. */
final class Checks {
    private static final int MOST_PRINTED = 40;
    private static final long MOST_MILLIS = 600_000;

    private int passed;
    private int failed;

    Checks() {
        Thread watch = new Thread(Checks::endLate);
        watch.setDaemon(true);
        watch.start();
    }

    private static void endLate() {
        try {
            Thread.sleep(MOST_MILLIS);
        } catch (InterruptedException e) {
            return;
        }
        System.out.println("the test takes too long");
        Runtime.getRuntime().halt(1);
    }

    /** A call that answers with a number, or throws. */
    interface Call {
        Object answer();
    }

    /** The answer of a call as a text; behind "throws." the name of what it throws. */
    static String told(Call call) {
        try {
            return String.valueOf(call.answer());
        } catch (RuntimeException e) {
            return "throws." + e.getClass().getSimpleName();
        } catch (StackOverflowError e) {
            return "throws.StackOverflowError";
        }
    }

    boolean same(String what, Object got, Object due) {
        boolean alike = Objects.equals(String.valueOf(got), String.valueOf(due));
        if (alike) {
            passed++;
            return true;
        }
        failed++;
        if (failed <= MOST_PRINTED) {
            System.out.println(what + " answered " + got + ", due is " + due);
        }
        return false;
    }

    void due(String what, Call call, Object due) {
        same(what, told(call), due);
    }

    void noPlace(String what, Call call) {
        due(what, call, "throws.IndexOutOfBoundsException");
    }

    void noArgument(String what, Call call) {
        due(what, call, "throws.IllegalArgumentException");
    }

    void noState(String what, Call call) {
        due(what, call, "throws.IllegalStateException");
    }

    int failures() {
        return failed;
    }

    void end() {
        System.out.println("checks: " + passed + " as due, " + failed + " not as due");
        if (failed != 0 || passed == 0) {
            System.exit(1);
        }
    }
}
