import java.lang.reflect.InvocationTargetException;
import java.lang.reflect.Method;
import java.lang.reflect.Modifier;
import java.util.ArrayList;
import java.util.Arrays;
import java.util.Comparator;
import java.util.List;
import java.util.Random;

/** Long runs of calls, the same in every run of the tests, answered by the class and by the model alike. */
final class RandomRunsTest {
    private static final int RUNS = 400;
    private static final int CALLS = 512;
    private static final String[] CHANGES = {"buildRoad", "acceptParcel", "acceptParcel", "buyGlove", "setCapacity",
        "put", "put", "put", "put", "takeOut", "carry", "carry", "carry", "comeBack", "comeBack"};
    // These throw away what a run has built, so they are made seldom.
    private static final String[] STEPS_BACK = {"undo", "undo", "undo", "undo", "save", "restore"};
    private static final List<String> NO_QUERIES = List.of("undo", "save", "restore", "feed", "runCommands");
    private static final String[] KEYWORDS = {"road ", "parcel ", "glove ", "put ", "out ", "carry ", "back "};

    private final Random random;
    private final int run;
    private final ParcelDepot depot = new ParcelDepot();
    private final Model model = new Model();
    private final List<Method> methods = new ArrayList<>();
    private int calls = 0;
    private boolean agrees = true;

    private RandomRunsTest(int run) {
        this.run = run;
        random = new Random(run);
        for (Method method : ParcelDepot.class.getDeclaredMethods()) {
            if (Modifier.isPublic(method.getModifiers())) {
                methods.add(method);
            }
        }
        // The machine tells the methods in no order that holds from run to run.
        methods.sort(Comparator.comparing(Method::getName));
    }

    static void run() throws Exception {
        Check.promise(0);
        for (int run = 0; run < RUNS; run++) {
            new RandomRunsTest(run).compare();
        }
    }

    private void compare() throws Exception {
        while (calls < CALLS && agrees) {
            int kind = random.nextInt(200);
            if (kind < 3) {
                feedText();
            } else if (kind < 10) {
                call(named(STEPS_BACK[random.nextInt(STEPS_BACK.length)]));
            } else if (kind < 110) {
                call(named(CHANGES[random.nextInt(CHANGES.length)]));
            } else {
                callQuery();
            }
        }
        Check.holds("the whole of run " + run, agrees);
    }

    private void callQuery() throws Exception {
        Method method = methods.get(random.nextInt(methods.size()));
        if (!NO_QUERIES.contains(method.getName())) {
            call(method);
        }
    }

    private Method named(String name) {
        for (Method method : methods) {
            if (method.getName().equals(name)) {
                return method;
            }
        }
        throw new IllegalArgumentException(name);
    }

    private void call(Method method, Object... fixed) throws Exception {
        Class<?>[] types = method.getParameterTypes();
        Object[] arguments = fixed.length > 0 ? fixed : new Object[types.length];
        for (int index = 0; index < types.length && fixed.length == 0; index++) {
            arguments[index] = types[index] == char.class ? (Object) character() : (Object) number(method, index);
        }
        Object got = answer(method, depot, arguments);
        Object due = answer(Model.class.getDeclaredMethod(method.getName(), types), model, arguments);
        calls++;
        agrees &= due.equals(got);
        Check.equal("run " + run + " call " + calls + " " + method.getName() + Arrays.toString(arguments), due, got);
    }

    private static Object answer(Method method, Object target, Object[] arguments) throws Exception {
        try {
            return method.invoke(target, arguments);
        } catch (InvocationTargetException e) {
            return e.getCause().getClass();
        }
    }

    private int number(Method method, int index) {
        if (random.nextInt(40) == 0) {
            int[] odd = {-1, 0, 3, 4, 6, 12, 20, 21, 60, 61, Integer.MIN_VALUE, Integer.MAX_VALUE};
            return odd[random.nextInt(odd.length)];
        }
        String place = method.getName() + index;
        switch (place) {
            case "buildRoad2":
            case "acceptParcel0":
                return 1 + random.nextInt(20);
            case "acceptParcel1":
                return random.nextInt(4);
            case "buyGlove0":
                return 1 + random.nextInt(3);
            case "setCapacity1":
                return 10 + random.nextInt(51);
            case "outputChar0":
                return random.nextInt(14);
            case "comeBack0":
                return parcelInState('d');
            case "takeOut0":
                return parcelInState('s');
            case "put0":
                return parcelInState('w');
            case "grade0":
            case "usesLeft0":
                return random.nextInt(model.gloveCount() + 1);
            case "acceptParcel2":
            case "put1":
            case "carry0":
            case "setCapacity0":
            case "effortTo0":
                return random.nextInt(3);
            case "buildRoad0":
            case "buildRoad1":
            case "carry1":
                // Few places, so that parcels are delivered often.
                return random.nextInt(random.nextInt(4) == 0 ? 6 : 4);
            default:
                return random.nextInt(1 + Math.max(random.nextInt(6), model.parcelCount()));
        }
    }

    /** Mostly a parcel in this state, if there is one. */
    private int parcelInState(char state) {
        int first = random.nextInt(12);
        for (int step = 0; step < 12 && random.nextInt(30) != 0; step++) {
            int parcel = (first + step) % 12;
            if (parcel < model.parcelCount() && model.state(parcel) == state) {
                return parcel;
            }
        }
        return first;
    }

    private char character() {
        char[] odd = {0, 255, 256, 65535, ';', ' '};
        return random.nextInt(30) == 0 ? odd[random.nextInt(odd.length)] : "roadpclgve 01;-".charAt(random.nextInt(15));
    }

    private void feedText() throws Exception {
        StringBuilder text = new StringBuilder();
        int commands = 1 + random.nextInt(4);
        for (int command = 0; command < commands; command++) {
            text.append(command == 0 ? "" : ";").append(command());
        }
        if (random.nextInt(5) == 0) {
            text.setCharAt(random.nextInt(text.length()), character());
        }
        if (random.nextInt(8) == 0) {
            text.setLength(random.nextInt(text.length()));
        }
        if (random.nextInt(3) != 0) {
            call(named("runCommands"));
        }
        for (int index = 0; index < text.length(); index++) {
            call(named("feed"), text.charAt(index));
        }
        if (random.nextInt(3) != 0) {
            call(named("runCommands"));
        }
    }

    private String command() {
        String keyword = KEYWORDS[random.nextInt(KEYWORDS.length)];
        int place = random.nextInt(4);
        switch (keyword) {
            case "road ":
                return keyword + place + "-" + random.nextInt(7) + " " + random.nextInt(23);
            case "parcel ":
                return keyword + random.nextInt(22) + " " + place + " " + random.nextInt(6);
            case "put ":
                return keyword + (random.nextBoolean() ? "0" : "") + random.nextInt(8) + " " + random.nextInt(3);
            case "carry ":
                return keyword + random.nextInt(3) + " " + place;
            case "glove ":
                return keyword + place;
            default:
                return keyword + random.nextInt(random.nextInt(5) == 0 ? 13 : 6);
        }
    }
}
