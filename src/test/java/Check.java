import java.util.Objects;

/** Counts the checks that hold and prints those that do not. */
final class Check {
    private static final int PROMISES = 53;
    private static final int[] CHECKS = new int[PROMISES + 1];
    private static int promise = 0;
    private static int passed = 0;
    private static int failed = 0;

    private Check() {
    }

    /** The checks that follow belong to this promise; 0 stands for none in particular. */
    static void promise(int number) {
        promise = number;
    }

    static void equal(String what, Object due, Object got) {
        count(Objects.equals(due, got), what + " answered " + got + ", due is " + due);
    }

    static void holds(String what, boolean condition) {
        count(condition, what + " does not hold");
    }

    /** The class of the exception must be this very one: what the machine throws is often a class below it. */
    static void refused(String what, Class<? extends RuntimeException> due, Runnable call) {
        Class<?> got = null;
        try {
            call.run();
        } catch (RuntimeException e) {
            got = e.getClass();
        }
        equal(what + " throwing", due, got);
    }

    private static void count(boolean condition, String message) {
        CHECKS[promise]++;
        if (condition) {
            passed++;
        } else {
            failed++;
            System.out.println("promise " + promise + ": " + message);
        }
    }

    static void everyPromiseIsChecked() {
        for (int number = 1; number <= PROMISES; number++) {
            int checks = CHECKS[number];
            promise(0);
            holds("a check for promise " + number, checks > 0);
        }
    }

    static int failures() {
        System.out.println("own: " + passed + " passed, " + failed + " failed");
        return failed;
    }
}
