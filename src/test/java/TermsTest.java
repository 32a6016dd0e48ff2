import java.util.NoSuchElementException;

/** The document's part Terms, from the places to the returns: a test for each of its sentences. */
final class TermsTest {
    private static final Class<IndexOutOfBoundsException> INDEX = IndexOutOfBoundsException.class;
    private static final Class<IllegalArgumentException> ARGUMENT = IllegalArgumentException.class;
    private static final Class<IllegalStateException> STATE = IllegalStateException.class;
    private static final Class<NoSuchElementException> ELEMENT = NoSuchElementException.class;
    private static final Class<UnsupportedOperationException> UNSUPPORTED = UnsupportedOperationException.class;

    private TermsTest() {
    }

    static void run() {
        places();
        roads();
        oneRoadJoinsTwoPlaces();
        distances();
        twelveParcels();
        indicesOfParcels();
        partsOfAParcel();
        newParcelWaits();
        eightGloves();
        indicesOfGloves();
        gradesAndUses();
        protection();
        handling();
        harmlessParcels();
        choiceOfTheGlove();
        noSuchGlove();
        sacks();
        newSacks();
        loads();
        effort();
        delivery();
        deliveryWithoutGlove();
        returns();
    }

    private static void places() {
        Check.sentence(0, "There are the places 0 to 5.");
        Check.range("a road from", 0, 5, INDEX, place -> new ParcelDepot().buildRoad(place, 3, 1));
        Check.range("a road to", 0, 5, INDEX, place -> new ParcelDepot().buildRoad(3, place, 1));
        Check.range("a parcel for", 0, 5, INDEX, place -> new ParcelDepot().acceptParcel(1, 0, place));
        Check.range("carrying to", 0, 5, INDEX, place -> {
            ParcelDepot depot = joined();
            depot.carry(0, 3);
            depot.carry(0, place);
        });
        Check.range("farthestPlace", 0, 5, INDEX, place -> joined().farthestPlace(place));
        Check.range("effortTo", 0, 5, INDEX, place -> joined().effortTo(0, place));
        Check.range("roadLength from", 0, 5, INDEX, place -> joined().roadLength(place, 3));
        Check.range("roadLength to", 0, 5, INDEX, place -> joined().roadLength(3, place));
        Check.range("distance from", 0, 5, INDEX, place -> joined().distance(place, 3));
        Check.range("distance to", 0, 5, INDEX, place -> joined().distance(3, place));
        Check.range("distanceByRounds from", 0, 5, INDEX, place -> joined().distanceByRounds(place, 3));
        Check.range("distanceByRounds to", 0, 5, INDEX, place -> joined().distanceByRounds(3, place));
    }

    /** A road of length 2 from place 3 to each other place. */
    private static ParcelDepot joined() {
        ParcelDepot depot = new ParcelDepot();
        for (int place : new int[] {0, 1, 2, 4, 5}) {
            depot.buildRoad(3, place, 2);
        }
        return depot;
    }

    private static void roads() {
        Check.sentence(0, "A road joins two different places");
        for (int place = 0; place < 6; place++) {
            int same = place;
            Check.refused("a road from a place to itself", ARGUMENT, () -> new ParcelDepot().buildRoad(same, same, 1));
        }
        Check.range("the length", 1, 20, ARGUMENT, length -> new ParcelDepot().buildRoad(1, 4, length));
        ParcelDepot depot = new ParcelDepot();
        depot.buildRoad(4, 1, 20);
        depot.buildRoad(0, 1, 1);
        Check.equal("the road in its direction", 20, depot.roadLength(4, 1));
        Check.equal("the road in the other direction", 20, depot.roadLength(1, 4));
        Check.equal("the distance with both directions", 21, depot.distance(0, 4));
        Check.equal("the distance back", 21, depot.distance(4, 0));
        Check.letsIn("carrying in one direction", () -> depot.carry(0, 4));
        Check.letsIn("carrying in the other", () -> depot.carry(0, 1));
    }

    private static void oneRoadJoinsTwoPlaces() {
        Check.sentence(0, "At most one road joins two places");
        Check.equal("the roads initially", 0, new ParcelDepot().roadCount());
        ParcelDepot depot = new ParcelDepot();
        int roads = 0;
        for (int first = 0; first < 6; first++) {
            for (int second = first + 1; second < 6; second++) {
                int from = first;
                int to = second;
                Check.refused("no road initially", ELEMENT, () -> new ParcelDepot().roadLength(from, to));
                Check.equal("the first road of two places", ++roads, depot.buildRoad(first, second, 9));
                Check.refused("a second road of two places", STATE, () -> depot.buildRoad(from, to, 9));
                Check.refused("a second road the other way", STATE, () -> depot.buildRoad(to, from, 1));
                Check.equal("the length of the first road", 9, depot.roadLength(second, first));
                Check.equal("the number of roads", roads, depot.roadCount());
            }
        }
    }

    private static void distances() {
        Check.sentence(0, "The distance of two places is the least sum");
        distanceWithDetour(9, 10);
        distanceWithDetour(10, 10);
        distanceWithDetour(10, 11);
        // The way over five roads is shorter by one than the road, then as long.
        distanceAlongAll(16, 15);
        distanceAlongAll(15, 15);
        distanceAlongAll(14, 14);
        ParcelDepot depot = new ParcelDepot();
        depot.buildRoad(0, 1, 1);
        depot.buildRoad(1, 2, 20);
        depot.buildRoad(3, 4, 1);
        for (int place = 0; place < 6; place++) {
            checkDistance("a place to itself", depot, place, place, "0");
        }
        checkDistance("no way", depot, 0, 3, "NoSuchElementException");
        checkDistance("no way to a place without roads", depot, 2, 5, "NoSuchElementException");
        depot.buildRoad(4, 2, 1);
        checkDistance("a way over a new road", depot, 0, 3, "23");
    }

    private static void distanceWithDetour(int road, int detour) {
        ParcelDepot depot = new ParcelDepot();
        depot.buildRoad(0, 5, road);
        depot.buildRoad(0, 4, 1);
        depot.buildRoad(4, 5, detour - 1);
        checkDistance("a road of " + road + " beside a way of " + detour, depot, 0, 5, "" + Math.min(road, detour));
    }

    private static void distanceAlongAll(int road, int due) {
        ParcelDepot depot = new ParcelDepot();
        int[] order = {5, 0, 3, 1, 4, 2};
        for (int index = 0; index < 5; index++) {
            depot.buildRoad(order[index], order[index + 1], 3);
        }
        depot.buildRoad(5, 2, road);
        checkDistance("a road of " + road + " beside five of 3", depot, 5, 2, "" + due);
    }

    private static void checkDistance(String what, ParcelDepot depot, int first, int second, String due) {
        Check.equal(what + " by distance", due, Depots.answer(() -> depot.distance(first, second)));
        Check.equal(what + " by distance back", due, Depots.answer(() -> depot.distance(second, first)));
        Check.equal(what + " by rounds", due, Depots.answer(() -> depot.distanceByRounds(first, second)));
        Check.equal(what + " by rounds back", due, Depots.answer(() -> depot.distanceByRounds(second, first)));
    }

    private static void twelveParcels() {
        Check.sentence(0, "At most 12 parcels exist.");
        ParcelDepot depot = Depots.addWeights(new ParcelDepot(), 1, 2, 3, 4, 5, 6, 7, 8, 9, 10, 11);
        Check.equal("the twelfth parcel", 11, depot.acceptParcel(12, 0, 5));
        Check.refused("a thirteenth parcel", STATE, () -> depot.acceptParcel(1, 0, 0));
        Check.refused("a thirteenth parcel by a command", UNSUPPORTED, () -> Depots.run(depot, "parcel 1 0 0"));
        Depots.run(depot, "road 0-5 1;put 0 0;carry 0 5");
        Check.refused("a parcel besides twelve, one of them delivered", STATE, () -> depot.acceptParcel(1, 0, 0));
        Check.equal("the parcels", 12, depot.parcelCount());
    }

    private static void indicesOfParcels() {
        Check.sentence(0, "Their indices start at 0, follow the order in which they were accepted");
        ParcelDepot depot = new ParcelDepot();
        depot.buildRoad(0, 5, 1);
        for (int parcel = 0; parcel < 12; parcel++) {
            Check.equal("the index", parcel, depot.acceptParcel(12 - parcel, 0, parcel == 0 ? 5 : 4));
        }
        depot.put(0, 0);
        depot.put(3, 1);
        depot.carry(0, 5);
        weightsFall("with one parcel delivered", depot);
        depot.comeBack(0);
        depot.takeOut(3);
        weightsFall("with one parcel back and one taken out", depot);
    }

    private static void weightsFall(String when, ParcelDepot depot) {
        for (int parcel = 0; parcel < 12; parcel++) {
            Check.equal("weight(" + parcel + ") " + when, 12 - parcel, depot.weight(parcel));
        }
    }

    private static void partsOfAParcel() {
        Check.sentence(0, "A parcel has a weight from 1 to 20");
        Check.range("the weight", 1, 20, ARGUMENT, weight -> new ParcelDepot().acceptParcel(weight, 0, 0));
        Check.range("the hazard", 0, 3, ARGUMENT, hazard -> new ParcelDepot().acceptParcel(1, hazard, 0));
        Check.range("the destination", 0, 5, INDEX, place -> new ParcelDepot().acceptParcel(1, 0, place));
        ParcelDepot depot = new ParcelDepot();
        depot.acceptParcel(20, 0, 5);
        depot.acceptParcel(1, 3, 0);
        Check.equal("the first parcel", "20 0 5", depot.weight(0) + " " + depot.hazard(0) + " " + depot.destination(0));
        Check.equal("the second parcel", "1 3 0", depot.weight(1) + " " + depot.hazard(1) + " " + depot.destination(1));
        depot.buildRoad(0, 5, 1);
        Check.equal("the state in the depot", 'w', depot.state(0));
        depot.put(0, 2);
        Check.equal("the state in a sack", 's', depot.state(0));
        depot.carry(2, 5);
        Check.equal("the state after delivery", 'd', depot.state(0));
    }

    private static void newParcelWaits() {
        Check.sentence(0, "A new parcel waits.");
        ParcelDepot depot = new ParcelDepot();
        for (int parcel = 0; parcel < 12; parcel++) {
            // Also one whose destination is where all sacks are.
            depot.acceptParcel(1, 0, parcel % 6);
            Check.equal("state(" + parcel + ")", 'w', depot.state(parcel));
            Check.equal("waitingCount()", parcel + 1, depot.waitingCount());
        }
    }

    private static void eightGloves() {
        Check.sentence(0, "At most 8 gloves exist.");
        ParcelDepot depot = Depots.withGloves(1, 2, 3, 1, 2, 3, 1);
        Check.equal("the eighth glove", 7, depot.buyGlove(2));
        Check.refused("a ninth glove", STATE, () -> depot.buyGlove(1));
        Check.refused("a ninth glove by a command", UNSUPPORTED, () -> Depots.run(depot, "glove 1"));
        Depots.addHazards(depot, 1);
        Depots.run(depot, "put 0 0;out 0");
        Check.refused("a ninth glove beside a worn one", STATE, () -> depot.buyGlove(3));
        depot.put(0, 0);
        Check.equal("the eighth glove when one is gone", 7, depot.buyGlove(3));
        Check.refused("a ninth glove then", STATE, () -> depot.buyGlove(3));
        Check.equal("the gloves", 8, depot.gloveCount());
    }

    private static void indicesOfGloves() {
        Check.sentence(0, "Their indices start at 0 and follow the order in which they were bought");
        int[] grades = {2, 3, 1};
        ParcelDepot bought = new ParcelDepot();
        for (int glove = 0; glove < 3; glove++) {
            Check.equal("the index", glove, bought.buyGlove(grades[glove]));
        }
        Check.equal("the grades in order", "2/3 3/3 1/3", gloves(bought));
        Check.equal("with the last one gone", "2/3 3/3", gloves(wornOut(1, 2, 3, 1)));
        Check.equal("with the first one gone", "3/3 1/3", gloves(wornOut(2, 2, 3, 1)));
        Check.equal("with the middle one gone", "2/3 1/3", gloves(wornOut(3, 2, 3, 1)));
        Check.equal("with the only one gone", "", gloves(wornOut(1, 2)));
        Check.equal("with the first of eight gone", "2/3 3/3 2/3 3/3 2/3 3/3 2/3",
                gloves(wornOut(1, 1, 2, 3, 2, 3, 2, 3, 2)));
    }

    /** A depot whose glove for this hazard has been used three times. */
    private static ParcelDepot wornOut(int hazard, int... grades) {
        ParcelDepot depot = Depots.addHazards(Depots.withGloves(grades), hazard);
        Depots.run(depot, "put 0 0;out 0;put 0 0");
        return depot;
    }

    private static String gloves(ParcelDepot depot) {
        StringBuilder text = new StringBuilder();
        for (int glove = 0; glove < depot.gloveCount(); glove++) {
            text.append(glove == 0 ? "" : " ").append(depot.grade(glove)).append('/').append(depot.usesLeft(glove));
        }
        return text.toString();
    }

    private static void gradesAndUses() {
        Check.sentence(0, "A glove has a grade from 1 to 3 and can be used 3 times");
        Check.range("the grade", 1, 3, ARGUMENT, grade -> new ParcelDepot().buyGlove(grade));
        ParcelDepot depot = Depots.addHazards(Depots.withGloves(2), 1);
        Check.letsIn("the first use", () -> depot.put(0, 0));
        Check.letsIn("the second use", () -> depot.takeOut(0));
        Check.equal("the glove after the second use", "2/1", gloves(depot));
        Check.letsIn("the third use", () -> depot.put(0, 0));
        Check.equal("the gloves after the third use", 0, depot.gloveCount());
        Check.equal("the gloves that are gone", 1, depot.glovesUsedUp());
        Check.refused("a fourth use", ELEMENT, () -> depot.takeOut(0));
    }

    private static void protection() {
        Check.sentence(0, "A glove protects against hazards that are not greater than its grade.");
        for (int grade = 1; grade <= 3; grade++) {
            for (int hazard = 1; hazard <= 3; hazard++) {
                ParcelDepot depot = Depots.addHazards(Depots.withGloves(grade), hazard);
                String what = " of hazard " + hazard + " with a glove of grade " + grade;
                Check.equal("canHandle" + what, hazard <= grade, depot.canHandle(0));
                Check.equal("put" + what, hazard <= grade ? "1" : "NoSuchElementException",
                        Depots.answer(() -> depot.put(0, 0)));
            }
        }
    }

    private static void handling() {
        Check.sentence(0, "A parcel is handled when it is put into a sack or taken out of it by hand.");
        ParcelDepot depot = Depots.withGloves(3, 3, 3);
        depot.buildRoad(0, 5, 1);
        depot.acceptParcel(1, 2, 5);
        Check.equal("the gloves after the parcel was accepted", "3/3 3/3 3/3", gloves(depot));
        depot.put(0, 0);
        Check.equal("the gloves after it was put", "3/2 3/3 3/3", gloves(depot));
        depot.takeOut(0);
        Check.equal("the gloves after it was taken out", "3/1 3/3 3/3", gloves(depot));
        depot.put(0, 0);
        Check.equal("the gloves after it was put again", "3/3 3/3", gloves(depot));
        depot.carry(0, 5);
        Check.equal("the gloves after delivery", "3/3 3/3", gloves(depot));
        depot.comeBack(0);
        Check.equal("the gloves after it came back", "3/3 3/3", gloves(depot));
    }

    private static void harmlessParcels() {
        Check.sentence(0, "Handling a parcel with hazard 0 needs no glove.");
        ParcelDepot bare = Depots.addHazards(new ParcelDepot(), 0);
        Check.equal("canHandle without gloves", true, bare.canHandle(0));
        Check.letsIn("put without gloves", () -> bare.put(0, 0));
        Check.letsIn("takeOut without gloves", () -> bare.takeOut(0));
        ParcelDepot depot = Depots.addHazards(Depots.withGloves(1, 3), 0);
        depot.put(0, 0);
        depot.takeOut(0);
        Check.equal("the gloves, none of them used", "1/3 3/3", gloves(depot));
    }

    private static void choiceOfTheGlove() {
        Check.sentence(0, "Handling another parcel uses one of the gloves that protect against its hazard");
        Check.equal("hazard 1: the least grade", "3/3 2/3 1/2 3/3", glovesAfter(1, 3, 2, 1, 3));
        Check.equal("hazard 2: the least grade that protects", "3/3 2/2 1/3 3/3", glovesAfter(2, 3, 2, 1, 3));
        Check.equal("hazard 3: the least index of the least grade", "3/2 2/3 1/3 3/3", glovesAfter(3, 3, 2, 1, 3));
        Check.equal("a greater grade when no other protects", "1/3 3/2", glovesAfter(2, 1, 3));
        Check.equal("the last of eight", "1/3 1/3 1/3 1/3 2/3 2/3 2/3 3/2", glovesAfter(3, 1, 1, 1, 1, 2, 2, 2, 3));
        ParcelDepot depot = Depots.addHazards(Depots.withGloves(2, 2), 1, 2, 2);
        depot.put(0, 0);
        depot.put(1, 0);
        Check.equal("the one that was used most often", "2/1 2/3", gloves(depot));
        depot.buyGlove(1);
        depot.takeOut(0);
        Check.equal("the least grade, though another was used more often", "2/1 2/3 1/2", gloves(depot));
        depot.takeOut(1);
        depot.put(2, 0);
        Check.equal("the next one when it is gone", "2/2 1/2", gloves(depot));
    }

    private static String glovesAfter(int hazard, int... grades) {
        ParcelDepot depot = Depots.addHazards(Depots.withGloves(grades), hazard);
        depot.put(0, 0);
        return gloves(depot);
    }

    private static void noSuchGlove() {
        Check.sentence(0, "Without such a glove, the parcel cannot be handled.");
        ParcelDepot bare = Depots.addHazards(new ParcelDepot(), 1);
        Check.equal("canHandle without gloves", false, bare.canHandle(0));
        Check.refused("put without gloves", ELEMENT, () -> bare.put(0, 0));
        ParcelDepot weak = Depots.addHazards(Depots.withGloves(1, 2, 2), 3);
        Check.equal("canHandle with weak gloves", false, weak.canHandle(0));
        Check.refused("put with weak gloves", ELEMENT, () -> weak.put(0, 0));
        ParcelDepot worn = wornOut(2, 1, 2);
        Check.equal("canHandle with the glove gone", false, worn.canHandle(0));
        Check.refused("takeOut with the glove gone", ELEMENT, () -> worn.takeOut(0));
        Check.equal("the state of the parcel that cannot be handled", 's', worn.state(0));
    }

    private static void sacks() {
        Check.sentence(0, "There are the sacks 0 to 2.");
        Check.range("setCapacity", 0, 2, INDEX, sack -> new ParcelDepot().setCapacity(sack, 30));
        Check.range("put", 0, 2, INDEX, sack -> Depots.addWeights(new ParcelDepot(), 1).put(0, sack));
        Check.range("carry", 0, 2, INDEX, sack -> joined().carry(sack, 5));
        Check.range("effortTo", 0, 2, INDEX, sack -> joined().effortTo(sack, 5));
        Check.range("place", 0, 2, INDEX, sack -> new ParcelDepot().place(sack));
        Check.range("capacity", 0, 2, INDEX, sack -> new ParcelDepot().capacity(sack));
        Check.range("load", 0, 2, INDEX, sack -> new ParcelDepot().load(sack));
        Check.range("parcelsIn", 0, 2, INDEX, sack -> new ParcelDepot().parcelsIn(sack));
        Check.range("mostFitting", 0, 2, INDEX, sack -> new ParcelDepot().mostFitting(sack));
        Check.range("mostFittingByTable", 0, 2, INDEX, sack -> new ParcelDepot().mostFittingByTable(sack));
        Check.range("writeSack", 0, 2, INDEX, sack -> new ParcelDepot().writeSack(sack));
    }

    private static void newSacks() {
        Check.sentence(0, "A sack is at a place, initially at place 0, and has a capacity, initially 30.");
        for (int sack = 0; sack < 3; sack++) {
            ParcelDepot depot = Depots.addWeights(new ParcelDepot(), 20, 10, 1);
            Check.equal("the place of a new sack", 0, depot.place(sack));
            Check.equal("the capacity of a new sack", 30, depot.capacity(sack));
            depot.put(0, sack);
            Check.equal("a load of 30", 30, depot.put(1, sack));
            int full = sack;
            Check.refused("a load of 31", UNSUPPORTED, () -> depot.put(2, full));
        }
    }

    private static void loads() {
        Check.sentence(0, "The load of a sack is the sum of the weights of the parcels in it");
        ParcelDepot depot = Depots.addWeights(new ParcelDepot(), 20, 20, 20, 1, 7);
        Check.equal("the load of an empty sack", 0, depot.load(1));
        depot.setCapacity(1, 60);
        depot.put(0, 1);
        depot.put(1, 1);
        depot.put(4, 2);
        Check.equal("the load of two parcels", 40, depot.load(1));
        Check.equal("the load of the greatest capacity", 60, depot.put(2, 1));
        Check.refused("a load above the greatest capacity", UNSUPPORTED, () -> depot.put(3, 1));
        Check.refused("a capacity below the load", STATE, () -> depot.setCapacity(1, 59));
        depot.takeOut(0);
        Check.equal("the load with one taken out", 40, depot.load(1));
        Check.equal("a capacity of the load", 60, depot.setCapacity(1, 40));
        Check.refused("a load of one above that", UNSUPPORTED, () -> depot.put(3, 1));
        Check.equal("the load of another sack", 7, depot.load(2));
    }

    private static void effort() {
        Check.sentence(0, "When a sack is carried to another place, the effort is the distance multiplied");
        ParcelDepot depot = new ParcelDepot();
        depot.buildRoad(0, 1, 20);
        depot.buildRoad(0, 2, 3);
        depot.buildRoad(2, 1, 4);
        depot.carry(0, 1);
        Check.equal("the effort of an empty sack", 0, depot.effortSoFar());
        depot.carry(0, 0);
        depot.acceptParcel(1, 0, 1);
        depot.acceptParcel(5, 0, 2);
        depot.put(0, 0);
        depot.carry(0, 1);
        Check.equal("the effort of the load before delivery", 7, depot.effortSoFar());
        depot.put(1, 0);
        depot.carry(0, 0);
        Check.equal("the effort along the shortest way", 7 + 35, depot.effortSoFar());
        Check.refused("carrying to the same place", ARGUMENT, () -> depot.carry(0, 0));
        Check.equal("the effort after that", 42, depot.effortSoFar());
    }

    private static void delivery() {
        Check.sentence(0, "Then each parcel in the sack whose destination is this place is delivered.");
        ParcelDepot depot = new ParcelDepot();
        depot.buildRoad(0, 1, 1);
        depot.buildRoad(1, 2, 1);
        int[] destinations = {2, 2, 1, 0, 2, 2};
        for (int destination : destinations) {
            depot.acceptParcel(1, 0, destination);
        }
        for (int parcel = 0; parcel < 4; parcel++) {
            depot.put(parcel, 0);
        }
        depot.put(4, 1);
        Check.equal("the parcels delivered", 2, depot.carry(0, 2));
        StringBuilder states = new StringBuilder();
        for (int parcel = 0; parcel < 6; parcel++) {
            states.append(depot.state(parcel));
        }
        Check.equal("not those for a place on the way, for the place left, in another sack, or waiting", "ddsssw",
                states.toString());
        Check.equal("the load without those delivered", 2, depot.load(0));
    }

    private static void deliveryWithoutGlove() {
        Check.sentence(0, "No glove is needed.");
        ParcelDepot depot = new ParcelDepot();
        depot.buildRoad(0, 5, 1);
        depot.acceptParcel(1, 3, 5);
        depot.buyGlove(3);
        Depots.run(depot, "put 0 0;out 0;put 0 0");
        Check.equal("no gloves", 0, depot.gloveCount());
        Check.equal("delivery without gloves", 1, depot.carry(0, 5));
        ParcelDepot other = new ParcelDepot();
        Depots.run(other, "road 0-5 1;glove 3;parcel 1 3 5;put 0 0;carry 0 5");
        Check.equal("the uses left of a glove", 2, other.usesLeft(0));
    }

    private static void returns() {
        Check.sentence(0, "A delivered parcel can come back");
        for (int hazard = 0; hazard <= 3; hazard++) {
            ParcelDepot depot = Depots.addHazards(Depots.withGloves(3, 3), hazard);
            depot.buildRoad(0, 5, 1);
            int due = hazard;
            for (int round = 1; round <= 2; round++) {
                depot.put(0, round);
                depot.carry(round, 5);
                due = due == 3 ? 3 : due + 1;
                Check.equal("the hazard when hazard " + hazard + " came back", due, depot.comeBack(0));
                Check.equal("the hazard that is told then", due, depot.hazard(0));
                Check.equal("the state then", 'w', depot.state(0));
            }
        }
    }
}
