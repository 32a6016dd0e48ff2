import java.util.Objects;
import java.util.function.Consumer;
import java.util.function.IntConsumer;
import java.util.function.Supplier;

/** Counts the checks that hold and prints those that do not. */
final class Check {
    private static final int PROMISES = 53;
    private static final int[] CHECKS = new int[PROMISES + 1];
    private static int promise = 0;
    private static Sentences.Sentence sentence = null;
    private static int passed = 0;
    private static int failed = 0;

    private Check() {
    }

    /** The checks that follow belong to this promise; 0 stands for none in particular. */
    static void promise(int number) {
        promise = number;
        sentence = null;
    }

    /** The checks that follow belong to the sentence that begins so; 0 stands for what comes before the promises. */
    static void sentence(int number, String beginning) {
        promise = number;
        sentence = Sentences.beginning(number, beginning);
    }

    static void equal(String what, Object due, Object got) {
        count(Objects.equals(due, got), what + " answered " + got + ", due is " + due);
    }

    static void holds(String what, boolean condition) {
        count(condition, what + " does not hold");
    }

    /** The class of the exception must be this very one: what the machine throws is often a class below it. */
    static void refused(String what, Class<? extends RuntimeException> due, Runnable call) {
        Class<?> got = null;
        try {
            call.run();
        } catch (RuntimeException e) {
            got = e.getClass();
        }
        equal(what + " throwing", due, got);
    }

    /** A call that throws where none should ends these tests only, not those that follow. */
    static void runs(String tests, Runnable call) {
        try {
            call.run();
        } catch (RuntimeException e) {
            e.printStackTrace(System.out);
            holds("the run of " + tests + " to its end", false);
        }
    }

    static void letsIn(String what, Runnable call) {
        Class<?> got = null;
        try {
            call.run();
        } catch (RuntimeException e) {
            got = e.getClass();
        }
        equal(what + " throwing", null, got);
    }

    /** Both ends of the range are let in, and what lies beyond them is refused. */
    static void range(String what, int first, int last, Class<? extends RuntimeException> due, IntConsumer call) {
        letsIn(what + " " + first, () -> call.accept(first));
        letsIn(what + " " + last, () -> call.accept(last));
        beyond(what, first, last, due, call);
    }

    static void beyond(String what, int first, int last, Class<? extends RuntimeException> due, IntConsumer call) {
        for (int value : new int[] {first - 1, last + 1, Integer.MIN_VALUE, Integer.MAX_VALUE}) {
            refused(what + " " + value, due, () -> call.accept(value));
        }
    }

    /** The call is refused, and what its depot tells afterwards is what a twin tells that had no such call. */
    static void leavesAll(String what, Supplier<ParcelDepot> maker, Class<? extends RuntimeException> due,
            Consumer<ParcelDepot> call) {
        ParcelDepot depot = maker.get();
        refused(what, due, () -> call.accept(depot));
        equal("all that is told after " + what, Depots.told(maker.get()), Depots.told(depot));
    }

    /** The call is refused, and leaves what is undone and saved and what can be undone as it was. */
    static void leavesState(String what, Supplier<ParcelDepot> maker, Class<? extends RuntimeException> due,
            Consumer<ParcelDepot> call) {
        ParcelDepot depot = maker.get();
        refused(what, due, () -> call.accept(depot));
        equal("the state after " + what, Depots.history(maker.get()), Depots.history(depot));
    }

    private static void count(boolean condition, String message) {
        CHECKS[promise]++;
        if (sentence != null) {
            sentence.checks++;
        }
        if (condition) {
            passed++;
        } else {
            failed++;
            System.out.println("promise " + promise + ": " + (sentence == null ? "" : "'" + sentence.text + "' ")
                    + message);
        }
    }

    static void everyPromiseIsChecked() {
        for (int number = 1; number <= PROMISES; number++) {
            int checks = CHECKS[number];
            promise(0);
            holds("a check for promise " + number, checks > 0);
        }
    }

    static int failures() {
        System.out.println("own: " + passed + " passed, " + failed + " failed");
        return failed;
    }
}
