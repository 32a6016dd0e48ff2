import java.util.ArrayDeque;
import java.util.ArrayList;
import java.util.Comparator;
import java.util.Deque;
import java.util.List;
import java.util.NoSuchElementException;
import java.util.regex.Matcher;
import java.util.regex.Pattern;

/**
 * The document once more, written for plainness and by other ways than the class: all ways are walked, all sets of
 * parcels tried, texts matched by a regular expression. Random runs compare the two.
 */
final class Model {
    private static final class Parcel {
        int weight;
        int hazard;
        int destination;
        char state = 'w';
        int sack;
        int returns;

        Parcel copy() {
            Parcel copy = new Parcel();
            copy.weight = weight;
            copy.hazard = hazard;
            copy.destination = destination;
            copy.state = state;
            copy.sack = sack;
            copy.returns = returns;
            return copy;
        }
    }

    private static final class World {
        Integer[][] roads = new Integer[6][6];
        List<Parcel> parcels = new ArrayList<>();
        List<int[]> gloves = new ArrayList<>();
        int[] places = {0, 0, 0};
        int[] capacities = {30, 30, 30};
        int effort;
        int gone;

        World copy() {
            World copy = new World();
            for (int place = 0; place < 6; place++) {
                copy.roads[place] = roads[place].clone();
            }
            for (Parcel parcel : parcels) {
                copy.parcels.add(parcel.copy());
            }
            for (int[] glove : gloves) {
                copy.gloves.add(glove.clone());
            }
            copy.places = places.clone();
            copy.capacities = capacities.clone();
            copy.effort = effort;
            copy.gone = gone;
            return copy;
        }
    }

    private static final Pattern COMMAND = Pattern.compile("road ([0-9])-([0-9]) ([0-9]{1,2})"
            + "|parcel ([0-9]{1,2}) ([0-9]) ([0-9])|glove ([0-9])|put ([0-9]{1,2}) ([0-9])|out ([0-9]{1,2})"
            + "|carry ([0-9]) ([0-9])|back ([0-9]{1,2})");
    private static final Pattern TEXT = Pattern.compile("(?:" + COMMAND + ")(?:;(?:" + COMMAND + "))*");

    private World world = new World();
    private World saved;
    private final Deque<World> past = new ArrayDeque<>();
    private String input = "";
    private String output = "";
    private Integer errorAt;
    private Integer failedAt;

    private static void index(boolean condition) {
        if (!condition) {
            throw new IndexOutOfBoundsException();
        }
    }

    private static void argument(boolean condition) {
        if (!condition) {
            throw new IllegalArgumentException();
        }
    }

    private static void state(boolean condition) {
        if (!condition) {
            throw new IllegalStateException();
        }
    }

    private static void supported(boolean condition) {
        if (!condition) {
            throw new UnsupportedOperationException();
        }
    }

    private static void element(boolean condition) {
        if (!condition) {
            throw new NoSuchElementException();
        }
    }

    private static void placeIndex(int place) {
        index(0 <= place && place <= 5);
    }

    private static void sackIndex(int sack) {
        index(0 <= sack && sack <= 2);
    }

    private void parcelIndex(int parcel) {
        index(0 <= parcel && parcel < world.parcels.size());
    }

    private void record(World before) {
        past.addLast(before);
        if (past.size() > 8) {
            past.removeFirst();
        }
    }

    public int buildRoad(int first, int second, int length) {
        World before = world.copy();
        int answer = doBuildRoad(first, second, length);
        record(before);
        return answer;
    }

    private int doBuildRoad(int first, int second, int length) {
        placeIndex(first);
        placeIndex(second);
        argument(first != second && 1 <= length && length <= 20);
        state(world.roads[first][second] == null);
        world.roads[first][second] = length;
        world.roads[second][first] = length;
        return roadCount();
    }

    public int acceptParcel(int weight, int hazard, int destination) {
        World before = world.copy();
        int answer = doAcceptParcel(weight, hazard, destination);
        record(before);
        return answer;
    }

    private int doAcceptParcel(int weight, int hazard, int destination) {
        placeIndex(destination);
        argument(1 <= weight && weight <= 20 && 0 <= hazard && hazard <= 3);
        state(world.parcels.size() < 12);
        Parcel parcel = new Parcel();
        parcel.weight = weight;
        parcel.hazard = hazard;
        parcel.destination = destination;
        world.parcels.add(parcel);
        return world.parcels.size() - 1;
    }

    public int buyGlove(int grade) {
        World before = world.copy();
        int answer = doBuyGlove(grade);
        record(before);
        return answer;
    }

    private int doBuyGlove(int grade) {
        argument(1 <= grade && grade <= 3);
        state(world.gloves.size() < 8);
        world.gloves.add(new int[] {grade, 3});
        return world.gloves.size() - 1;
    }

    public int setCapacity(int sack, int capacity) {
        World before = world.copy();
        sackIndex(sack);
        argument(1 <= capacity && capacity <= 60);
        state(load(sack) <= capacity);
        int previous = world.capacities[sack];
        world.capacities[sack] = capacity;
        record(before);
        return previous;
    }

    private int chosenGlove(int hazard) {
        List<Integer> fitting = new ArrayList<>();
        for (int glove = 0; glove < world.gloves.size(); glove++) {
            if (world.gloves.get(glove)[0] >= hazard) {
                fitting.add(glove);
            }
        }
        element(!fitting.isEmpty());
        fitting.sort(Comparator.<Integer>comparingInt(glove -> world.gloves.get(glove)[0])
                .thenComparingInt(glove -> world.gloves.get(glove)[1]).thenComparingInt(glove -> glove));
        return fitting.get(0);
    }

    private void handle(Parcel parcel) {
        if (parcel.hazard == 0) {
            return;
        }
        int glove = chosenGlove(parcel.hazard);
        if (--world.gloves.get(glove)[1] == 0) {
            world.gloves.remove(glove);
            world.gone++;
        }
    }

    public int put(int parcel, int sack) {
        World before = world.copy();
        int answer = doPut(parcel, sack);
        record(before);
        return answer;
    }

    private int doPut(int parcel, int sack) {
        parcelIndex(parcel);
        sackIndex(sack);
        Parcel chosen = world.parcels.get(parcel);
        state(chosen.state == 'w');
        supported(load(sack) + chosen.weight <= world.capacities[sack]);
        handle(chosen);
        chosen.state = 's';
        chosen.sack = sack;
        return load(sack);
    }

    public int takeOut(int parcel) {
        World before = world.copy();
        int answer = doTakeOut(parcel);
        record(before);
        return answer;
    }

    private int doTakeOut(int parcel) {
        parcelIndex(parcel);
        Parcel chosen = world.parcels.get(parcel);
        state(chosen.state == 's');
        handle(chosen);
        chosen.state = 'w';
        return chosen.sack;
    }

    public int carry(int sack, int place) {
        World before = world.copy();
        int answer = doCarry(sack, place);
        record(before);
        return answer;
    }

    private int doCarry(int sack, int place) {
        sackIndex(sack);
        placeIndex(place);
        argument(world.places[sack] != place);
        world.effort += effortTo(sack, place);
        world.places[sack] = place;
        int delivered = 0;
        for (Parcel parcel : world.parcels) {
            if (parcel.state == 's' && parcel.sack == sack && parcel.destination == place) {
                parcel.state = 'd';
                delivered++;
            }
        }
        return delivered;
    }

    public int comeBack(int parcel) {
        World before = world.copy();
        int answer = doComeBack(parcel);
        record(before);
        return answer;
    }

    private int doComeBack(int parcel) {
        parcelIndex(parcel);
        Parcel chosen = world.parcels.get(parcel);
        state(chosen.state == 'd');
        chosen.state = 'w';
        chosen.returns++;
        chosen.hazard = Math.min(3, chosen.hazard + 1);
        return chosen.hazard;
    }

    public int roadCount() {
        int count = 0;
        for (int first = 0; first < 6; first++) {
            for (int second = 0; second < first; second++) {
                count += world.roads[first][second] == null ? 0 : 1;
            }
        }
        return count;
    }

    public int roadLength(int first, int second) {
        placeIndex(first);
        placeIndex(second);
        element(world.roads[first][second] != null);
        return world.roads[first][second];
    }

    /** The least length of all ways that visit no place twice, or null. */
    private Integer leastWay(int from, int to, int visited) {
        if (from == to) {
            return 0;
        }
        Integer least = null;
        for (int next = 0; next < 6; next++) {
            if (world.roads[from][next] != null && (visited >> next & 1) == 0) {
                Integer rest = leastWay(next, to, visited | 1 << next);
                if (rest != null && (least == null || rest + world.roads[from][next] < least)) {
                    least = rest + world.roads[from][next];
                }
            }
        }
        return least;
    }

    public int distance(int first, int second) {
        placeIndex(first);
        placeIndex(second);
        Integer way = leastWay(first, second, 1 << first);
        element(way != null);
        return way;
    }

    public int distanceByRounds(int first, int second) {
        return distance(first, second);
    }

    public int farthestPlace(int place) {
        placeIndex(place);
        int farthest = place;
        int greatest = 0;
        for (int other = 5; other >= 0; other--) {
            Integer way = leastWay(place, other, 1 << place);
            if (way != null && way > 0 && way >= greatest) {
                farthest = other;
                greatest = way;
            }
        }
        return farthest;
    }

    public int parcelCount() {
        return world.parcels.size();
    }

    public int weight(int parcel) {
        parcelIndex(parcel);
        return world.parcels.get(parcel).weight;
    }

    public int hazard(int parcel) {
        parcelIndex(parcel);
        return world.parcels.get(parcel).hazard;
    }

    public int destination(int parcel) {
        parcelIndex(parcel);
        return world.parcels.get(parcel).destination;
    }

    public char state(int parcel) {
        parcelIndex(parcel);
        return world.parcels.get(parcel).state;
    }

    public int sackOf(int parcel) {
        parcelIndex(parcel);
        element(world.parcels.get(parcel).state == 's');
        return world.parcels.get(parcel).sack;
    }

    public int returns(int parcel) {
        parcelIndex(parcel);
        return world.parcels.get(parcel).returns;
    }

    private List<Parcel> inState(char state) {
        List<Parcel> found = new ArrayList<>(world.parcels);
        found.removeIf(parcel -> parcel.state != state);
        return found;
    }

    public int waitingCount() {
        return inState('w').size();
    }

    public int deliveredCount() {
        return inState('d').size();
    }

    public int gloveCount() {
        return world.gloves.size();
    }

    public int grade(int glove) {
        index(0 <= glove && glove < world.gloves.size());
        return world.gloves.get(glove)[0];
    }

    public int usesLeft(int glove) {
        index(0 <= glove && glove < world.gloves.size());
        return world.gloves.get(glove)[1];
    }

    public int gloveFor(int parcel) {
        parcelIndex(parcel);
        supported(hazard(parcel) != 0);
        return chosenGlove(hazard(parcel));
    }

    public boolean canHandle(int parcel) {
        parcelIndex(parcel);
        return hazard(parcel) == 0 || world.gloves.stream().anyMatch(glove -> glove[0] >= hazard(parcel));
    }

    /** The greatest matching of waiting parcels with single uses of gloves. */
    public int handleable() {
        List<Integer> uses = new ArrayList<>();
        for (int[] glove : world.gloves) {
            for (int use = 0; use < glove[1]; use++) {
                uses.add(glove[0]);
            }
        }
        int[] holders = new int[uses.size()];
        java.util.Arrays.fill(holders, -1);
        List<Parcel> waiting = inState('w');
        int handled = 0;
        for (int parcel = 0; parcel < waiting.size(); parcel++) {
            if (waiting.get(parcel).hazard == 0 || finds(parcel, waiting, uses, holders, new boolean[uses.size()])) {
                handled++;
            }
        }
        return handled;
    }

    private static boolean finds(int parcel, List<Parcel> waiting, List<Integer> uses, int[] holders, boolean[] tried) {
        for (int use = 0; use < holders.length; use++) {
            if (uses.get(use) >= waiting.get(parcel).hazard && !tried[use]) {
                tried[use] = true;
                if (holders[use] < 0 || finds(holders[use], waiting, uses, holders, tried)) {
                    holders[use] = parcel;
                    return true;
                }
            }
        }
        return false;
    }

    public int handleableByShortage() {
        return handleable();
    }

    public int place(int sack) {
        sackIndex(sack);
        return world.places[sack];
    }

    public int capacity(int sack) {
        sackIndex(sack);
        return world.capacities[sack];
    }

    private List<Parcel> inSack(int sack) {
        List<Parcel> found = inState('s');
        found.removeIf(parcel -> parcel.sack != sack);
        return found;
    }

    public int load(int sack) {
        sackIndex(sack);
        return inSack(sack).stream().mapToInt(parcel -> parcel.weight).sum();
    }

    public int parcelsIn(int sack) {
        sackIndex(sack);
        return inSack(sack).size();
    }

    /** All sets of waiting parcels are tried. */
    public int mostFitting(int sack) {
        sackIndex(sack);
        List<Parcel> waiting = inState('w');
        int most = 0;
        for (int set = 0; set < 1 << waiting.size(); set++) {
            int sum = load(sack);
            if (Integer.bitCount(set) > most) {
                for (int parcel = 0; parcel < waiting.size(); parcel++) {
                    sum += (set >> parcel & 1) * waiting.get(parcel).weight;
                }
                most = sum <= world.capacities[sack] ? Integer.bitCount(set) : most;
            }
        }
        return most;
    }

    public int mostFittingByTable(int sack) {
        return mostFitting(sack);
    }

    public int effortTo(int sack, int place) {
        sackIndex(sack);
        placeIndex(place);
        return distance(world.places[sack], place) * load(sack);
    }

    public int effortSoFar() {
        return world.effort;
    }

    public int glovesUsedUp() {
        return world.gone;
    }

    public int heaviest(int rank) {
        List<Integer> ranked = new ArrayList<>();
        for (int parcel = 0; parcel < world.parcels.size(); parcel++) {
            if (state(parcel) != 'd') {
                ranked.add(parcel);
            }
        }
        ranked.sort(Comparator.<Integer>comparingInt(parcel -> -weight(parcel))
                .thenComparingInt(parcel -> -hazard(parcel)).thenComparingInt(parcel -> parcel));
        element(0 <= rank && rank < ranked.size());
        return ranked.get(rank);
    }

    public double meanHazard() {
        if (world.parcels.isEmpty()) {
            throw new ArithmeticException();
        }
        return (double) world.parcels.stream().mapToInt(parcel -> parcel.hazard).sum() / (double) world.parcels.size();
    }

    public float deliveredShare() {
        if (world.parcels.isEmpty()) {
            throw new ArithmeticException();
        }
        return (float) deliveredCount() / (float) world.parcels.size();
    }

    public boolean isConsistent() {
        return true;
    }

    public int feed(char character) {
        state(input.length() < 60);
        input += character;
        return input.length();
    }

    public int runCommands() {
        String text = input;
        input = "";
        if (!TEXT.matcher(text).matches()) {
            errorAt = longestBeginning(text);
            throw new IllegalArgumentException();
        }
        World before = world.copy();
        String[] commands = text.split(";");
        for (int command = 0; command < commands.length; command++) {
            try {
                runOne(commands[command]);
            } catch (RuntimeException e) {
                world = before;
                failedAt = command;
                throw new UnsupportedOperationException();
            }
        }
        record(before);
        return commands.length;
    }

    private static int longestBeginning(String text) {
        for (int length = text.length(); length > 0; length--) {
            Matcher matcher = TEXT.matcher(text.substring(0, length));
            if (matcher.matches() || matcher.hitEnd()) {
                return length;
            }
        }
        return 0;
    }

    private void runOne(String command) {
        String[] words = command.split("[ -]");
        int[] numbers = new int[words.length];
        for (int word = 1; word < words.length; word++) {
            numbers[word] = Integer.parseInt(words[word]);
        }
        switch (words[0]) {
            case "road" -> doBuildRoad(numbers[1], numbers[2], numbers[3]);
            case "parcel" -> doAcceptParcel(numbers[1], numbers[2], numbers[3]);
            case "glove" -> doBuyGlove(numbers[1]);
            case "put" -> doPut(numbers[1], numbers[2]);
            case "out" -> doTakeOut(numbers[1]);
            case "carry" -> doCarry(numbers[1], numbers[2]);
            default -> doComeBack(numbers[1]);
        }
    }

    public int errorPosition() {
        element(errorAt != null);
        return errorAt;
    }

    public int failedCommand() {
        element(failedAt != null);
        return failedAt;
    }

    public int writeSack(int sack) {
        sackIndex(sack);
        output = "s" + sack + "@" + world.places[sack];
        for (Parcel parcel : inSack(sack)) {
            output += " " + parcel.weight + "h".repeat(parcel.hazard) + ">" + parcel.destination;
        }
        return output.length();
    }

    public char outputChar(int index) {
        index(0 <= index && index < output.length());
        return output.charAt(index);
    }

    public int undoCount() {
        return past.size();
    }

    public int undo() {
        state(!past.isEmpty());
        world = past.removeLast();
        return past.size();
    }

    public int save() {
        saved = world.copy();
        return world.parcels.size();
    }

    public int restore() {
        state(saved != null);
        world = saved.copy();
        past.clear();
        return world.parcels.size();
    }
}
