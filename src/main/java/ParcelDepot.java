import java.util.NoSuchElementException;

/** A parcel depot that handles hazardous parcels with protective gloves. */
public final class ParcelDepot {
    private static final int PLACES = 6;
    private static final int LONGEST_ROAD = 20;
    private static final int MOST_PARCELS = 12;
    private static final int GREATEST_WEIGHT = 20;
    private static final int GREATEST_HAZARD = 3;
    private static final int MOST_GLOVES = 8;
    private static final int BEST_GRADE = 3;
    private static final int USES_OF_A_GLOVE = 3;
    private static final int SACKS = 3;
    private static final int FIRST_CAPACITY = 30;
    private static final int GREATEST_CAPACITY = 60;
    private static final int MOST_UNDOS = 8;
    private static final int MOST_INPUT = 60;
    // The number, "@", the place and twelve parcels of eight characters each need no more.
    private static final int MOST_OUTPUT = 100;
    // The shortest command, "out 0", and its semicolon take six characters.
    private static final int MOST_COMMANDS = 10;

    private static final int NONE = -1;
    // Besides the numbers of the sacks, these two tell where a parcel is.
    private static final int IN_DEPOT = -1;
    private static final int DELIVERED = -2;

    // What a change answers in place of its result when it is refused,
    // so that a command can fail without an exception on its way.
    private static final int NO_SUCH_INDEX = -2;
    private static final int BAD_ARGUMENT = -3;
    private static final int WRONG_STATE = -4;
    private static final int UNSUPPORTED = -5;
    private static final int NO_SUCH_ELEMENT = -6;

    private static final Form[] FORMS = Form.values();

    private final DepotState now;
    private final DepotState saved;
    private final History history;
    private final Estimate estimate;
    private final CommandText input;
    private final SackText output;
    private boolean hasSaved;
    private int errorAt;
    private int failedAt;

    public ParcelDepot() {
        now = new DepotState();
        saved = new DepotState();
        history = new History();
        estimate = new Estimate();
        input = new CommandText();
        output = new SackText();
        hasSaved = false;
        errorAt = NONE;
        failedAt = NONE;
    }

    public int buildRoad(int first, int second, int length)
            throws IndexOutOfBoundsException, IllegalArgumentException, IllegalStateException {
        history.prepare(now);
        return recorded(now.joinPlaces(first, second, length));
    }

    public int acceptParcel(int weight, int hazard, int destination)
            throws IndexOutOfBoundsException, IllegalArgumentException, IllegalStateException {
        history.prepare(now);
        return recorded(now.addParcel(weight, hazard, destination));
    }

    public int buyGlove(int grade) throws IllegalArgumentException, IllegalStateException {
        history.prepare(now);
        return recorded(now.addGlove(grade));
    }

    public int setCapacity(int sack, int capacity)
            throws IndexOutOfBoundsException, IllegalArgumentException, IllegalStateException {
        history.prepare(now);
        return recorded(now.changeCapacity(sack, capacity));
    }

    public int put(int parcel, int sack)
            throws IndexOutOfBoundsException, IllegalStateException, UnsupportedOperationException,
            NoSuchElementException {
        history.prepare(now);
        return recorded(now.putIn(parcel, sack));
    }

    public int takeOut(int parcel)
            throws IndexOutOfBoundsException, IllegalStateException, NoSuchElementException {
        history.prepare(now);
        return recorded(now.pullOut(parcel));
    }

    public int carry(int sack, int place)
            throws IndexOutOfBoundsException, IllegalArgumentException, NoSuchElementException {
        history.prepare(now);
        return recorded(now.bring(sack, place));
    }

    public int comeBack(int parcel) throws IndexOutOfBoundsException, IllegalStateException {
        history.prepare(now);
        return recorded(now.takeBack(parcel));
    }

    public int roadCount() {
        return now.roads.size();
    }

    public int roadLength(int first, int second) throws IndexOutOfBoundsException, NoSuchElementException {
        requirePlaces(first, second);
        return present(now.roads.lengthBetween(first, second));
    }

    public int distance(int first, int second) throws IndexOutOfBoundsException, NoSuchElementException {
        requirePlaces(first, second);
        return present(now.roads.shortest(first, second));
    }

    public int distanceByRounds(int first, int second) throws IndexOutOfBoundsException, NoSuchElementException {
        requirePlaces(first, second);
        now.roads.measureByRounds();
        return present(now.roads.measuredByRounds(first, second));
    }

    public int farthestPlace(int place) throws IndexOutOfBoundsException {
        requireIndex(place, PLACES);
        return now.roads.farthestFrom(place);
    }

    public int parcelCount() {
        return now.parcels.size();
    }

    public int weight(int parcel) throws IndexOutOfBoundsException {
        requireParcel(parcel);
        return now.parcels.weightOf(parcel);
    }

    public int hazard(int parcel) throws IndexOutOfBoundsException {
        requireParcel(parcel);
        return now.parcels.hazardOf(parcel);
    }

    public int destination(int parcel) throws IndexOutOfBoundsException {
        requireParcel(parcel);
        return now.parcels.destinationOf(parcel);
    }

    public char state(int parcel) throws IndexOutOfBoundsException {
        requireParcel(parcel);
        return now.parcels.stateOf(parcel);
    }

    public int sackOf(int parcel) throws IndexOutOfBoundsException, NoSuchElementException {
        requireParcel(parcel);
        int where = now.parcels.whereIs(parcel);
        return present(isIndex(where, SACKS) ? where : NONE);
    }

    public int returns(int parcel) throws IndexOutOfBoundsException {
        requireParcel(parcel);
        return now.parcels.returnsOf(parcel);
    }

    public int waitingCount() {
        return now.parcels.countAt(IN_DEPOT);
    }

    public int deliveredCount() {
        return now.parcels.countAt(DELIVERED);
    }

    public int gloveCount() {
        return now.gloves.size();
    }

    public int grade(int glove) throws IndexOutOfBoundsException {
        requireIndex(glove, now.gloves.size());
        return now.gloves.gradeOf(glove);
    }

    public int usesLeft(int glove) throws IndexOutOfBoundsException {
        requireIndex(glove, now.gloves.size());
        return now.gloves.usesLeftOf(glove);
    }

    public int gloveFor(int parcel)
            throws IndexOutOfBoundsException, UnsupportedOperationException, NoSuchElementException {
        requireParcel(parcel);
        int hazard = now.parcels.hazardOf(parcel);
        return hazard == 0 ? accepted(UNSUPPORTED) : present(now.gloves.bestAgainst(hazard));
    }

    public boolean canHandle(int parcel) throws IndexOutOfBoundsException {
        requireParcel(parcel);
        return now.isSafe(parcel);
    }

    public int handleable() {
        return estimate.handledGreedily(now);
    }

    public int handleableByShortage() {
        return estimate.handledByShortage(now);
    }

    public int place(int sack) throws IndexOutOfBoundsException {
        requireIndex(sack, SACKS);
        return now.sacks.placeOf(sack);
    }

    public int capacity(int sack) throws IndexOutOfBoundsException {
        requireIndex(sack, SACKS);
        return now.sacks.capacityOf(sack);
    }

    public int load(int sack) throws IndexOutOfBoundsException {
        requireIndex(sack, SACKS);
        return now.parcels.weightAt(sack);
    }

    public int parcelsIn(int sack) throws IndexOutOfBoundsException {
        requireIndex(sack, SACKS);
        return now.parcels.countAt(sack);
    }

    public int mostFitting(int sack) throws IndexOutOfBoundsException {
        requireIndex(sack, SACKS);
        return estimate.fittingGreedily(now, sack);
    }

    public int mostFittingByTable(int sack) throws IndexOutOfBoundsException {
        requireIndex(sack, SACKS);
        return estimate.fittingByTable(now, sack);
    }

    public int effortTo(int sack, int place) throws IndexOutOfBoundsException, NoSuchElementException {
        requireIndex(sack, SACKS);
        requireIndex(place, PLACES);
        return present(now.effortOf(sack, place));
    }

    public int effortSoFar() {
        return now.sacks.effortOfAll();
    }

    public int glovesUsedUp() {
        return now.gloves.goneCount();
    }

    public int heaviest(int rank) throws NoSuchElementException {
        return present(now.parcels.atRank(rank));
    }

    public double meanHazard() throws ArithmeticException {
        int count = now.parcels.size();
        if (count == 0) {
            throw new ArithmeticException("there are no parcels");
        }
        return (double) now.parcels.sumOfHazards() / (double) count;
    }

    public float deliveredShare() throws ArithmeticException {
        int count = now.parcels.size();
        if (count == 0) {
            throw new ArithmeticException("there are no parcels");
        }
        return (float) now.parcels.countAt(DELIVERED) / (float) count;
    }

    public boolean isConsistent() {
        return now.roads.bothDistancesAgree() && handlingAgrees() && sacksAgree();
    }

    public int feed(char character) throws IllegalStateException {
        return accepted(input.isFull() ? WRONG_STATE : input.add(character));
    }

    public int runCommands() throws IllegalArgumentException, UnsupportedOperationException {
        int wrongAt = input.read();
        input.clear();
        if (wrongAt != NONE) {
            errorAt = wrongAt;
            throw new IllegalArgumentException("the text is malformed");
        }
        history.prepare(now);
        int refusedAt = carryOutCommands();
        if (refusedAt != NONE) {
            history.putBack(now);
            failedAt = refusedAt;
            throw new UnsupportedOperationException("a command cannot be carried out");
        }
        return recorded(input.commandCount());
    }

    public int errorPosition() throws NoSuchElementException {
        return present(errorAt);
    }

    public int failedCommand() throws NoSuchElementException {
        return present(failedAt);
    }

    public int writeSack(int sack) throws IndexOutOfBoundsException {
        requireIndex(sack, SACKS);
        return output.describe(now, sack);
    }

    public char outputChar(int index) throws IndexOutOfBoundsException {
        requireIndex(index, output.size());
        return output.at(index);
    }

    public int undoCount() {
        return history.size();
    }

    public int undo() throws IllegalStateException {
        return accepted(history.size() == 0 ? WRONG_STATE : history.goBack(now));
    }

    public int save() {
        saved.copyFrom(now);
        hasSaved = true;
        return now.parcels.size();
    }

    public int restore() throws IllegalStateException {
        if (!hasSaved) {
            throw new IllegalStateException("no state was saved");
        }
        now.copyFrom(saved);
        history.forget();
        return now.parcels.size();
    }

    private static boolean isIndex(int index, int size) {
        return index >= 0 && index < size;
    }

    private static boolean isWithin(int value, int least, int greatest) {
        return value >= least && value <= greatest;
    }

    /** Answers the outcome of a call, or throws what the outcome stands for. */
    private static int accepted(int outcome) {
        switch (outcome) {
            case NO_SUCH_INDEX:
                throw new IndexOutOfBoundsException("there is nothing with this index");
            case BAD_ARGUMENT:
                throw new IllegalArgumentException("an argument is out of range");
            case WRONG_STATE:
                throw new IllegalStateException("the state does not allow this call");
            case UNSUPPORTED:
                throw new UnsupportedOperationException("this cannot be done");
            case NO_SUCH_ELEMENT:
                throw new NoSuchElementException("there is no such thing");
            default:
                return outcome;
        }
    }

    private static int present(int value) {
        return accepted(value == NONE ? NO_SUCH_ELEMENT : value);
    }

    private int recorded(int outcome) {
        int result = accepted(outcome);
        history.keep();
        return result;
    }

    private static void requireIndex(int index, int size) {
        if (!isIndex(index, size)) {
            throw new IndexOutOfBoundsException("there is nothing with this index");
        }
    }

    private static void requirePlaces(int first, int second) {
        requireIndex(first, PLACES);
        requireIndex(second, PLACES);
    }

    private void requireParcel(int parcel) {
        requireIndex(parcel, now.parcels.size());
    }

    private boolean handlingAgrees() {
        return estimate.handledGreedily(now) == estimate.handledByShortage(now);
    }

    private boolean sacksAgree() {
        for (int sack = 0; sack < SACKS; sack++) {
            if (estimate.fittingGreedily(now, sack) != estimate.fittingByTable(now, sack)) {
                return false;
            }
            if (now.roomIn(sack) < 0) {
                return false;
            }
        }
        return true;
    }

    /** Answers the index of the first command that is refused, or NONE. */
    private int carryOutCommands() {
        for (int index = 0; index < input.commandCount(); index++) {
            if (carryOut(input.command(index)) < 0) {
                return index;
            }
        }
        return NONE;
    }

    private int carryOut(Command command) {
        if (command == null || command.form == null) {
            return UNSUPPORTED;
        }
        switch (command.form) {
            case ROAD:
                return now.joinPlaces(command.first, command.second, command.third);
            case PARCEL:
                return now.addParcel(command.first, command.second, command.third);
            case GLOVE:
                return now.addGlove(command.first);
            case PUT:
                return now.putIn(command.first, command.second);
            case OUT:
                return now.pullOut(command.first);
            case CARRY:
                return now.bring(command.first, command.second);
            case BACK:
                return now.takeBack(command.first);
            default:
                return UNSUPPORTED;
        }
    }

    /** The roads, each held in both directions, and the rows that the two ways to compute distances use again. */
    private static final class Roads {
        private final int[] lengths = new int[PLACES * PLACES];
        private final int[] reached = new int[PLACES];
        private final boolean[] settled = new boolean[PLACES];
        private final int[] rounds = new int[PLACES * PLACES];
        private int count = 0;

        void copyFrom(Roads other) {
            System.arraycopy(other.lengths, 0, lengths, 0, lengths.length);
            count = other.count;
        }

        int size() {
            return count;
        }

        boolean joins(int first, int second) {
            return lengths[first * PLACES + second] > 0;
        }

        int lengthBetween(int first, int second) {
            return joins(first, second) ? lengths[first * PLACES + second] : NONE;
        }

        int join(int first, int second, int length) {
            lengths[first * PLACES + second] = length;
            lengths[second * PLACES + first] = length;
            count++;
            return count;
        }

        int shortest(int from, int to) {
            measureFrom(from);
            return reached[to];
        }

        int farthestFrom(int start) {
            measureFrom(start);
            int farthest = start;
            for (int place = 0; place < PLACES; place++) {
                if (reached[place] > reached[farthest]) {
                    farthest = place;
                }
            }
            return farthest;
        }

        /** Dijkstra's algorithm. */
        private void measureFrom(int start) {
            for (int place = 0; place < PLACES; place++) {
                reached[place] = NONE;
                settled[place] = false;
            }
            reached[start] = 0;
            for (int round = 0; round < PLACES; round++) {
                int nearest = nearestOpen();
                if (nearest == NONE) {
                    return;
                }
                settled[nearest] = true;
                goOnFrom(nearest);
            }
        }

        private int nearestOpen() {
            int nearest = NONE;
            for (int place = 0; place < PLACES; place++) {
                if (reached[place] != NONE && !settled[place]
                        && (nearest == NONE || reached[place] < reached[nearest])) {
                    nearest = place;
                }
            }
            return nearest;
        }

        private void goOnFrom(int middle) {
            for (int place = 0; place < PLACES; place++) {
                int length = lengths[middle * PLACES + place];
                int way = reached[middle] + length;
                if (length > 0 && (reached[place] == NONE || way < reached[place])) {
                    reached[place] = way;
                }
            }
        }

        /** The Floyd-Warshall algorithm. */
        void measureByRounds() {
            for (int from = 0; from < PLACES; from++) {
                for (int to = 0; to < PLACES; to++) {
                    rounds[from * PLACES + to] = from == to ? 0 : lengthBetween(from, to);
                }
            }
            for (int middle = 0; middle < PLACES; middle++) {
                for (int from = 0; from < PLACES; from++) {
                    for (int to = 0; to < PLACES; to++) {
                        shortenBy(from, middle, to);
                    }
                }
            }
        }

        private void shortenBy(int from, int middle, int to) {
            int first = rounds[from * PLACES + middle];
            int second = rounds[middle * PLACES + to];
            if (first == NONE || second == NONE) {
                return;
            }
            int known = rounds[from * PLACES + to];
            if (known == NONE || first + second < known) {
                rounds[from * PLACES + to] = first + second;
            }
        }

        int measuredByRounds(int first, int second) {
            return rounds[first * PLACES + second];
        }

        boolean bothDistancesAgree() {
            measureByRounds();
            for (int from = 0; from < PLACES; from++) {
                measureFrom(from);
                for (int to = 0; to < PLACES; to++) {
                    if (reached[to] != measuredByRounds(from, to)) {
                        return false;
                    }
                }
            }
            return true;
        }
    }

    private static final class Parcels {
        private final int[] weights = new int[MOST_PARCELS];
        private final int[] hazards = new int[MOST_PARCELS];
        private final int[] destinations = new int[MOST_PARCELS];
        private final int[] whereabouts = new int[MOST_PARCELS];
        private final int[] returnCounts = new int[MOST_PARCELS];
        private int count = 0;

        void copyFrom(Parcels other) {
            System.arraycopy(other.weights, 0, weights, 0, MOST_PARCELS);
            System.arraycopy(other.hazards, 0, hazards, 0, MOST_PARCELS);
            System.arraycopy(other.destinations, 0, destinations, 0, MOST_PARCELS);
            System.arraycopy(other.whereabouts, 0, whereabouts, 0, MOST_PARCELS);
            System.arraycopy(other.returnCounts, 0, returnCounts, 0, MOST_PARCELS);
            count = other.count;
        }

        int size() {
            return count;
        }

        boolean isFull() {
            return count >= MOST_PARCELS;
        }

        int add(int weight, int hazard, int destination) {
            int parcel = count;
            weights[parcel] = weight;
            hazards[parcel] = hazard;
            destinations[parcel] = destination;
            whereabouts[parcel] = IN_DEPOT;
            returnCounts[parcel] = 0;
            count++;
            return parcel;
        }

        int weightOf(int parcel) {
            return weights[parcel];
        }

        int hazardOf(int parcel) {
            return hazards[parcel];
        }

        int destinationOf(int parcel) {
            return destinations[parcel];
        }

        int whereIs(int parcel) {
            return whereabouts[parcel];
        }

        int returnsOf(int parcel) {
            return returnCounts[parcel];
        }

        char stateOf(int parcel) {
            if (whereabouts[parcel] == IN_DEPOT) {
                return 'w';
            }
            return whereabouts[parcel] == DELIVERED ? 'd' : 's';
        }

        void move(int parcel, int where) {
            whereabouts[parcel] = where;
        }

        int returnToDepot(int parcel) {
            whereabouts[parcel] = IN_DEPOT;
            returnCounts[parcel]++;
            if (hazards[parcel] < GREATEST_HAZARD) {
                hazards[parcel]++;
            }
            return hazards[parcel];
        }

        int deliverFrom(int sack, int place) {
            int delivered = 0;
            for (int parcel = 0; parcel < count; parcel++) {
                if (whereabouts[parcel] == sack && destinations[parcel] == place) {
                    whereabouts[parcel] = DELIVERED;
                    delivered++;
                }
            }
            return delivered;
        }

        int countAt(int where) {
            int found = 0;
            for (int parcel = 0; parcel < count; parcel++) {
                if (whereabouts[parcel] == where) {
                    found++;
                }
            }
            return found;
        }

        int weightAt(int where) {
            int sum = 0;
            for (int parcel = 0; parcel < count; parcel++) {
                if (whereabouts[parcel] == where) {
                    sum += weights[parcel];
                }
            }
            return sum;
        }

        int waitingOfHazard(int hazard) {
            int found = 0;
            for (int parcel = 0; parcel < count; parcel++) {
                if (whereabouts[parcel] == IN_DEPOT && hazards[parcel] == hazard) {
                    found++;
                }
            }
            return found;
        }

        int waitingOfWeight(int weight) {
            int found = 0;
            for (int parcel = 0; parcel < count; parcel++) {
                if (whereabouts[parcel] == IN_DEPOT && weights[parcel] == weight) {
                    found++;
                }
            }
            return found;
        }

        int sumOfHazards() {
            int sum = 0;
            for (int parcel = 0; parcel < count; parcel++) {
                sum += hazards[parcel];
            }
            return sum;
        }

        int atRank(int rank) {
            for (int parcel = 0; parcel < count; parcel++) {
                if (whereabouts[parcel] != DELIVERED && rankOf(parcel) == rank) {
                    return parcel;
                }
            }
            return NONE;
        }

        private int rankOf(int parcel) {
            int before = 0;
            for (int other = 0; other < count; other++) {
                if (whereabouts[other] != DELIVERED && comesBefore(other, parcel)) {
                    before++;
                }
            }
            return before;
        }

        private boolean comesBefore(int parcel, int other) {
            if (weights[parcel] != weights[other]) {
                return weights[parcel] > weights[other];
            }
            if (hazards[parcel] != hazards[other]) {
                return hazards[parcel] > hazards[other];
            }
            return parcel < other;
        }
    }

    private static final class Gloves {
        private final int[] grades = new int[MOST_GLOVES];
        private final int[] uses = new int[MOST_GLOVES];
        private int count = 0;
        private int gone = 0;

        void copyFrom(Gloves other) {
            System.arraycopy(other.grades, 0, grades, 0, MOST_GLOVES);
            System.arraycopy(other.uses, 0, uses, 0, MOST_GLOVES);
            count = other.count;
            gone = other.gone;
        }

        int size() {
            return count;
        }

        boolean isFull() {
            return count >= MOST_GLOVES;
        }

        int goneCount() {
            return gone;
        }

        int add(int grade) {
            int glove = count;
            grades[glove] = grade;
            uses[glove] = USES_OF_A_GLOVE;
            count++;
            return glove;
        }

        int gradeOf(int glove) {
            return grades[glove];
        }

        int usesLeftOf(int glove) {
            return uses[glove];
        }

        int bestAgainst(int hazard) {
            int best = NONE;
            for (int glove = 0; glove < count; glove++) {
                if (grades[glove] >= hazard && (best == NONE || isPreferred(glove, best))) {
                    best = glove;
                }
            }
            return best;
        }

        private boolean isPreferred(int glove, int other) {
            if (grades[glove] != grades[other]) {
                return grades[glove] < grades[other];
            }
            return uses[glove] < uses[other];
        }

        void useAgainst(int hazard) {
            if (hazard == 0) {
                return;
            }
            int glove = bestAgainst(hazard);
            if (glove == NONE) {
                return;
            }
            uses[glove]--;
            if (uses[glove] == 0) {
                remove(glove);
                gone++;
            }
        }

        private void remove(int glove) {
            count--;
            for (int index = glove; index < count; index++) {
                grades[index] = grades[index + 1];
                uses[index] = uses[index + 1];
            }
        }

        int usesOfGrade(int grade) {
            int sum = 0;
            for (int glove = 0; glove < count; glove++) {
                if (grades[glove] == grade) {
                    sum += uses[glove];
                }
            }
            return sum;
        }
    }

    private static final class Sacks {
        private final int[] places = new int[SACKS];
        private final int[] capacities = new int[SACKS];
        private int effort = 0;

        Sacks() {
            for (int sack = 0; sack < SACKS; sack++) {
                capacities[sack] = FIRST_CAPACITY;
            }
        }

        void copyFrom(Sacks other) {
            System.arraycopy(other.places, 0, places, 0, SACKS);
            System.arraycopy(other.capacities, 0, capacities, 0, SACKS);
            effort = other.effort;
        }

        int placeOf(int sack) {
            return places[sack];
        }

        int capacityOf(int sack) {
            return capacities[sack];
        }

        int effortOfAll() {
            return effort;
        }

        int resize(int sack, int capacity) {
            int previous = capacities[sack];
            capacities[sack] = capacity;
            return previous;
        }

        void move(int sack, int place, int effortOfThis) {
            places[sack] = place;
            effort += effortOfThis;
        }
    }

    /** All that is undone and saved, and the rules by which it changes. */
    private static final class DepotState {
        final Roads roads = new Roads();
        final Parcels parcels = new Parcels();
        final Gloves gloves = new Gloves();
        final Sacks sacks = new Sacks();

        void copyFrom(DepotState other) {
            roads.copyFrom(other.roads);
            parcels.copyFrom(other.parcels);
            gloves.copyFrom(other.gloves);
            sacks.copyFrom(other.sacks);
        }

        boolean isSafe(int parcel) {
            int hazard = parcels.hazardOf(parcel);
            return hazard == 0 || gloves.bestAgainst(hazard) != NONE;
        }

        int roomIn(int sack) {
            return sacks.capacityOf(sack) - parcels.weightAt(sack);
        }

        int effortOf(int sack, int place) {
            int way = roads.shortest(sacks.placeOf(sack), place);
            return way == NONE ? NONE : way * parcels.weightAt(sack);
        }

        // Each change answers its result, which is never negative, or changes nothing and answers why.

        int joinPlaces(int first, int second, int length) {
            if (!isIndex(first, PLACES) || !isIndex(second, PLACES)) {
                return NO_SUCH_INDEX;
            }
            if (first == second || !isWithin(length, 1, LONGEST_ROAD)) {
                return BAD_ARGUMENT;
            }
            return roads.joins(first, second) ? WRONG_STATE : roads.join(first, second, length);
        }

        int addParcel(int weight, int hazard, int destination) {
            if (!isIndex(destination, PLACES)) {
                return NO_SUCH_INDEX;
            }
            if (!isWithin(weight, 1, GREATEST_WEIGHT) || !isWithin(hazard, 0, GREATEST_HAZARD)) {
                return BAD_ARGUMENT;
            }
            return parcels.isFull() ? WRONG_STATE : parcels.add(weight, hazard, destination);
        }

        int addGlove(int grade) {
            if (!isWithin(grade, 1, BEST_GRADE)) {
                return BAD_ARGUMENT;
            }
            return gloves.isFull() ? WRONG_STATE : gloves.add(grade);
        }

        int changeCapacity(int sack, int capacity) {
            if (!isIndex(sack, SACKS)) {
                return NO_SUCH_INDEX;
            }
            if (!isWithin(capacity, 1, GREATEST_CAPACITY)) {
                return BAD_ARGUMENT;
            }
            return parcels.weightAt(sack) > capacity ? WRONG_STATE : sacks.resize(sack, capacity);
        }

        int putIn(int parcel, int sack) {
            if (!isIndex(parcel, parcels.size()) || !isIndex(sack, SACKS)) {
                return NO_SUCH_INDEX;
            }
            if (parcels.whereIs(parcel) != IN_DEPOT) {
                return WRONG_STATE;
            }
            if (parcels.weightOf(parcel) > roomIn(sack)) {
                return UNSUPPORTED;
            }
            if (!isSafe(parcel)) {
                return NO_SUCH_ELEMENT;
            }
            gloves.useAgainst(parcels.hazardOf(parcel));
            parcels.move(parcel, sack);
            return parcels.weightAt(sack);
        }

        int pullOut(int parcel) {
            if (!isIndex(parcel, parcels.size())) {
                return NO_SUCH_INDEX;
            }
            int sack = parcels.whereIs(parcel);
            if (!isIndex(sack, SACKS)) {
                return WRONG_STATE;
            }
            if (!isSafe(parcel)) {
                return NO_SUCH_ELEMENT;
            }
            gloves.useAgainst(parcels.hazardOf(parcel));
            parcels.move(parcel, IN_DEPOT);
            return sack;
        }

        int bring(int sack, int place) {
            if (!isIndex(sack, SACKS) || !isIndex(place, PLACES)) {
                return NO_SUCH_INDEX;
            }
            if (sacks.placeOf(sack) == place) {
                return BAD_ARGUMENT;
            }
            int way = roads.shortest(sacks.placeOf(sack), place);
            if (way == NONE) {
                return NO_SUCH_ELEMENT;
            }
            sacks.move(sack, place, way * parcels.weightAt(sack));
            return parcels.deliverFrom(sack, place);
        }

        int takeBack(int parcel) {
            if (!isIndex(parcel, parcels.size())) {
                return NO_SUCH_INDEX;
            }
            return parcels.whereIs(parcel) == DELIVERED ? parcels.returnToDepot(parcel) : WRONG_STATE;
        }
    }

    /** What could be handled and what would fit, each found in two ways. */
    private static final class Estimate {
        private final int[] usesOfGrades = new int[BEST_GRADE + 1];
        private final int[] mostOfWeight = new int[GREATEST_CAPACITY + 1];

        int handledGreedily(DepotState depot) {
            for (int grade = 1; grade <= BEST_GRADE; grade++) {
                usesOfGrades[grade] = depot.gloves.usesOfGrade(grade);
            }
            int handled = depot.parcels.waitingOfHazard(0);
            for (int hazard = 1; hazard <= GREATEST_HAZARD; hazard++) {
                handled += handledOf(hazard, depot.parcels.waitingOfHazard(hazard));
            }
            return handled;
        }

        private int handledOf(int hazard, int waiting) {
            int open = waiting;
            for (int grade = hazard; grade <= BEST_GRADE; grade++) {
                int used = Math.min(open, usesOfGrades[grade]);
                usesOfGrades[grade] -= used;
                open -= used;
            }
            return waiting - open;
        }

        int handledByShortage(DepotState depot) {
            int shortage = 0;
            int greatest = 0;
            for (int hazard = GREATEST_HAZARD; hazard >= 1; hazard--) {
                shortage += depot.parcels.waitingOfHazard(hazard) - depot.gloves.usesOfGrade(hazard);
                greatest = Math.max(greatest, shortage);
            }
            return depot.parcels.countAt(IN_DEPOT) - greatest;
        }

        int fittingGreedily(DepotState depot, int sack) {
            int room = depot.roomIn(sack);
            int fitting = 0;
            for (int weight = 1; weight <= GREATEST_WEIGHT; weight++) {
                int taken = Math.min(depot.parcels.waitingOfWeight(weight), room / weight);
                fitting += taken;
                room -= taken * weight;
            }
            return fitting;
        }

        int fittingByTable(DepotState depot, int sack) {
            int room = depot.roomIn(sack);
            if (!isIndex(room, mostOfWeight.length)) {
                return 0;
            }
            for (int weight = 0; weight <= room; weight++) {
                mostOfWeight[weight] = 0;
            }
            for (int parcel = 0; parcel < depot.parcels.size(); parcel++) {
                if (depot.parcels.whereIs(parcel) == IN_DEPOT) {
                    enter(depot.parcels.weightOf(parcel), room);
                }
            }
            return mostOfWeight[room];
        }

        // From the greatest weight downwards, so that no parcel counts twice.
        private void enter(int weight, int room) {
            for (int sum = room; sum >= weight; sum--) {
                mostOfWeight[sum] = Math.max(mostOfWeight[sum], mostOfWeight[sum - weight] + 1);
            }
        }
    }

    /** The states before the latest recorded calls, in a ring. */
    private static final class History {
        // One row more than can be undone: the state before a call that may yet be refused must not cost the oldest.
        private static final int ROWS = MOST_UNDOS + 1;

        private final DepotState[] ring = new DepotState[ROWS];
        private int next = 0;
        private int count = 0;

        History() {
            for (int row = 0; row < ROWS; row++) {
                ring[row] = new DepotState();
            }
        }

        int size() {
            return count;
        }

        void prepare(DepotState depot) {
            DepotState row = ring[next];
            if (row != null) {
                row.copyFrom(depot);
            }
        }

        void keep() {
            next = (next + 1) % ROWS;
            count = Math.min(count + 1, MOST_UNDOS);
        }

        void putBack(DepotState depot) {
            DepotState row = ring[next];
            if (row != null) {
                depot.copyFrom(row);
            }
        }

        int goBack(DepotState depot) {
            next = (next + ROWS - 1) % ROWS;
            count--;
            putBack(depot);
            return count;
        }

        void forget() {
            count = 0;
        }
    }

    /** How each command is written: # stands for one digit, % for one or two. */
    private enum Form {
        ROAD("road #-# %"),
        PARCEL("parcel % # #"),
        GLOVE("glove #"),
        PUT("put % #"),
        OUT("out %"),
        CARRY("carry # #"),
        BACK("back %");

        final String pattern;

        Form(String pattern) {
            this.pattern = pattern;
        }
    }

    private static final class Command {
        Form form = null;
        int first = 0;
        int second = 0;
        int third = 0;

        void setNumber(int index, int number) {
            if (index == 0) {
                first = number;
            } else if (index == 1) {
                second = number;
            } else {
                third = number;
            }
        }
    }

    /** The input buffer and the commands that were read from it. */
    private static final class CommandText {
        private final char[] text = new char[MOST_INPUT];
        private final Command[] commands = new Command[MOST_COMMANDS];
        private int length = 0;
        private int count = 0;
        private int at = 0;

        CommandText() {
            for (int index = 0; index < MOST_COMMANDS; index++) {
                commands[index] = new Command();
            }
        }

        boolean isFull() {
            return length >= MOST_INPUT;
        }

        int add(char character) {
            text[length] = character;
            length++;
            return length;
        }

        void clear() {
            length = 0;
        }

        int commandCount() {
            return count;
        }

        Command command(int index) {
            return isIndex(index, MOST_COMMANDS) ? commands[index] : null;
        }

        /** Reads the whole text into commands; answers its error position, or NONE if it is well-formed. */
        int read() {
            count = 0;
            int from = 0;
            for (int index = 0; index < MOST_COMMANDS; index++) {
                if (!readCommand(commands[index], from)) {
                    return at;
                }
                count++;
                if (at >= length) {
                    return NONE;
                }
                if (text[at] != ';') {
                    return at;
                }
                from = at + 1;
            }
            // The greatest number of commands with a semicolon behind each fills the input: the text ends too early.
            return from;
        }

        // The form that fits for longest tells the error position: the others failed before it.
        private boolean readCommand(Command command, int from) {
            int farthest = from;
            for (int index = 0; index < FORMS.length; index++) {
                if (fits(FORMS[index], command, from)) {
                    return true;
                }
                farthest = Math.max(farthest, at);
            }
            at = farthest;
            return false;
        }

        /** Leaves the index behind the command, or that of the first character that does not fit, in at. */
        private boolean fits(Form form, Command command, int from) {
            at = from;
            if (form == null || command == null) {
                return false;
            }
            command.form = form;
            int numbers = 0;
            for (int index = 0; index < form.pattern.length(); index++) {
                char due = form.pattern.charAt(index);
                if (due == '#' || due == '%') {
                    if (!isDigit(at)) {
                        return false;
                    }
                    command.setNumber(numbers, readNumber(due == '%'));
                    numbers++;
                } else {
                    if (at >= length || text[at] != due) {
                        return false;
                    }
                    at++;
                }
            }
            return true;
        }

        private int readNumber(boolean isLong) {
            int number = text[at] - '0';
            at++;
            if (isLong && isDigit(at)) {
                number = number * 10 + text[at] - '0';
                at++;
            }
            return number;
        }

        private boolean isDigit(int index) {
            return index < length && text[index] >= '0' && text[index] <= '9';
        }
    }

    /** The output. */
    private static final class SackText {
        private final char[] text = new char[MOST_OUTPUT];
        private int length = 0;

        int size() {
            return length;
        }

        char at(int index) {
            return text[index];
        }

        int describe(DepotState depot, int sack) {
            length = 0;
            add('s');
            addNumber(sack);
            add('@');
            addNumber(depot.sacks.placeOf(sack));
            for (int parcel = 0; parcel < depot.parcels.size(); parcel++) {
                if (depot.parcels.whereIs(parcel) == sack) {
                    addParcel(depot.parcels, parcel);
                }
            }
            return length;
        }

        private void addParcel(Parcels parcels, int parcel) {
            add(' ');
            addNumber(parcels.weightOf(parcel));
            for (int unit = 0; unit < parcels.hazardOf(parcel); unit++) {
                add('h');
            }
            add('>');
            addNumber(parcels.destinationOf(parcel));
        }

        private void addNumber(int number) {
            if (number >= 10) {
                add((char) ('0' + number / 10));
            }
            add((char) ('0' + number % 10));
        }

        private void add(char character) {
            if (length < MOST_OUTPUT) {
                text[length] = character;
                length++;
            }
        }
    }
}
