import java.util.NoSuchElementException;

/** Promises 5 to 8, 31 to 38 and 43: sacks, what is put into them, and carrying. */
final class SacksTest {
    private static final Class<IndexOutOfBoundsException> INDEX = IndexOutOfBoundsException.class;
    private static final Class<IllegalArgumentException> ARGUMENT = IllegalArgumentException.class;
    private static final Class<IllegalStateException> STATE = IllegalStateException.class;
    private static final Class<NoSuchElementException> ELEMENT = NoSuchElementException.class;
    private static final Class<UnsupportedOperationException> UNSUPPORTED = UnsupportedOperationException.class;
    private static final int[] NO_SACKS = {-1, 3, Integer.MIN_VALUE, Integer.MAX_VALUE};
    private static final int[] NO_PLACES = {-1, 6, Integer.MIN_VALUE, Integer.MAX_VALUE};

    private SacksTest() {
    }

    static void run() {
        capacitiesAreSet();
        parcelsArePut();
        puttingIsRefused();
        parcelsAreTakenOut();
        takingOutIsRefused();
        sacksAreCarried();
        carryingIsRefused();
        sacksAreTold();
        fittingIsCounted();
        effortsAreTold();
        unknownSacksAreRefused();
        depotsAreConsistent();
    }

    private static void capacitiesAreSet() {
        Check.promise(5);
        ParcelDepot depot = Depots.addWeights(new ParcelDepot(), 20, 7);
        Check.equal("setCapacity(0, 60)", 30, depot.setCapacity(0, 60));
        Check.equal("setCapacity(0, 1)", 60, depot.setCapacity(0, 1));
        Check.equal("setCapacity(0, 1) again", 1, depot.setCapacity(0, 1));
        Check.equal("undoCount() with nothing changed", 5, depot.undoCount());
        Check.equal("capacity(1)", 30, depot.capacity(1));
        depot.put(0, 2);
        depot.put(1, 2);
        Check.equal("setCapacity to the load", 30, depot.setCapacity(2, 27));
        String before = Depots.seen(depot);
        int undoable = depot.undoCount();
        Check.refused("a capacity below the load", STATE, () -> depot.setCapacity(2, 26));
        for (int capacity : new int[] {0, 61, -1, Integer.MIN_VALUE, Integer.MAX_VALUE}) {
            Check.refused("the capacity " + capacity, ARGUMENT, () -> depot.setCapacity(0, capacity));
            Check.refused("the capacity before the load", ARGUMENT, () -> depot.setCapacity(2, capacity));
        }
        for (int sack : NO_SACKS) {
            Check.refused("no sack " + sack, INDEX, () -> depot.setCapacity(sack, 30));
            Check.refused("no sack before the capacity", INDEX, () -> depot.setCapacity(sack, 0));
        }
        Check.equal("the state after refusals", before, Depots.seen(depot));
        Check.equal("undoCount() after refusals", undoable, depot.undoCount());
    }

    private static void parcelsArePut() {
        Check.promise(6);
        ParcelDepot depot = Depots.addWeights(Depots.withGloves(3), 20, 10, 1);
        depot.acceptParcel(1, 3, 0);
        depot.buildRoad(0, 1, 1);
        Check.equal("put(0, 0)", 20, depot.put(0, 0));
        Check.equal("put(1, 0) up to the capacity", 30, depot.put(1, 0));
        Check.equal("usesLeft(0) after harmless parcels", 3, depot.usesLeft(0));
        depot.carry(1, 1);
        Check.equal("put(2, 1) wherever the sack is", 1, depot.put(2, 1));
        depot.carry(1, 0);
        Check.equal("put(3, 1) at its own destination", 2, depot.put(3, 1));
        Check.equal("state(3), not delivered by that", 's', depot.state(3));
        Check.equal("sackOf(3)", 1, depot.sackOf(3));
        Check.equal("usesLeft(0)", 2, depot.usesLeft(0));
        Check.equal("undoCount()", 8, depot.undoCount());
    }

    private static void puttingIsRefused() {
        Check.promise(6);
        ParcelDepot depot = Depots.withGloves(2);
        depot.acceptParcel(20, 0, 1);
        depot.acceptParcel(11, 3, 1);
        depot.acceptParcel(10, 3, 1);
        depot.acceptParcel(1, 0, 1);
        depot.buildRoad(0, 1, 1);
        depot.put(3, 1);
        depot.carry(1, 1);
        depot.put(0, 0);
        String before = Depots.seen(depot);
        Check.refused("a parcel in a sack", STATE, () -> depot.put(0, 0));
        Check.refused("a parcel in another sack", STATE, () -> depot.put(0, 1));
        Check.refused("a delivered parcel", STATE, () -> depot.put(3, 2));
        Check.refused("the load before the gloves", UNSUPPORTED, () -> depot.put(1, 0));
        Check.refused("no glove", ELEMENT, () -> depot.put(2, 0));
        for (int sack : NO_SACKS) {
            Check.refused("no sack " + sack, INDEX, () -> depot.put(1, sack));
            Check.refused("no sack before the state", INDEX, () -> depot.put(0, sack));
        }
        for (int parcel : new int[] {-1, 4, 12, Integer.MIN_VALUE, Integer.MAX_VALUE}) {
            Check.refused("no parcel " + parcel, INDEX, () -> depot.put(parcel, 0));
        }
        Check.equal("the state after refusals", before, Depots.seen(depot));
        depot.setCapacity(0, 20);
        depot.setCapacity(1, 1);
        Check.refused("the state before the load", STATE, () -> depot.put(0, 1));
        Check.equal("undoCount()", 8, depot.undoCount());
        depot.undo();
        depot.undo();
        Check.equal("the state after refusals and undo", before, Depots.seen(depot));
    }

    private static void parcelsAreTakenOut() {
        Check.promise(7);
        ParcelDepot depot = Depots.withGloves(1, 2);
        Depots.addHazards(depot, 2, 0);
        depot.buildRoad(0, 1, 1);
        depot.put(0, 2);
        depot.put(1, 1);
        depot.carry(2, 1);
        int undoable = depot.undoCount();
        Check.equal("takeOut(0)", 2, depot.takeOut(0));
        Check.equal("undoCount()", Math.min(8, undoable + 1), depot.undoCount());
        Check.equal("state(0), waiting wherever the sack is", 'w', depot.state(0));
        Check.equal("load(2)", 0, depot.load(2));
        Check.equal("usesLeft(1)", 1, depot.usesLeft(1));
        Check.equal("returns(0)", 0, depot.returns(0));
        Check.equal("takeOut(1)", 1, depot.takeOut(1));
        Check.equal("usesLeft(0)", 3, depot.usesLeft(0));
    }

    private static void takingOutIsRefused() {
        Check.promise(7);
        ParcelDepot depot = Depots.withGloves(3);
        Depots.addHazards(depot, 3, 1, 0, 0, 1);
        depot.buildRoad(0, 5, 1);
        depot.put(3, 0);
        depot.carry(0, 5);
        depot.put(0, 0);
        depot.put(1, 0);
        depot.put(4, 0);
        depot.buyGlove(2);
        String before = Depots.seen(depot);
        Check.refused("no glove", ELEMENT, () -> depot.takeOut(0));
        Check.refused("a waiting parcel", STATE, () -> depot.takeOut(2));
        Check.refused("a delivered parcel", STATE, () -> depot.takeOut(3));
        for (int parcel : new int[] {-1, 5, 12, Integer.MIN_VALUE, Integer.MAX_VALUE}) {
            Check.refused("no parcel " + parcel, INDEX, () -> depot.takeOut(parcel));
        }
        Check.equal("the state after refusals", before, Depots.seen(depot));
        Depots.addHazards(depot, 3);
        Check.refused("the state before the gloves", STATE, () -> depot.takeOut(5));
        Check.equal("takeOut(1)", 0, depot.takeOut(1));
    }

    private static void sacksAreCarried() {
        Check.promise(8);
        ParcelDepot depot = Depots.withGloves(1);
        depot.buildRoad(0, 1, 4);
        depot.buildRoad(1, 2, 5);
        depot.buildRoad(0, 2, 20);
        depot.acceptParcel(7, 0, 1);
        depot.acceptParcel(3, 0, 2);
        depot.acceptParcel(2, 1, 2);
        depot.acceptParcel(9, 0, 2);
        depot.acceptParcel(8, 0, 2);
        for (int parcel = 0; parcel < 3; parcel++) {
            depot.put(parcel, 0);
        }
        depot.put(3, 1);
        Check.equal("carry(0, 2)", 2, depot.carry(0, 2));
        Check.equal("effortSoFar(), of the load before delivery", 9 * 12, depot.effortSoFar());
        Check.equal("the states", "sddsw", states(depot));
        Check.equal("load(0)", 7, depot.load(0));
        Check.equal("place(0)", 2, depot.place(0));
        Check.equal("place(1)", 0, depot.place(1));
        Check.equal("usesLeft(0), without a glove", 2, depot.usesLeft(0));
        int undoable = depot.undoCount();
        Check.equal("carry(0, 0)", 0, depot.carry(0, 0));
        Check.equal("undoCount()", Math.min(8, undoable + 1), depot.undoCount());
        Check.equal("effortSoFar()", 9 * 12 + 9 * 7, depot.effortSoFar());
        Check.equal("carry(0, 1)", 1, depot.carry(0, 1));
        Check.equal("carry(2, 1) of an empty sack", 0, depot.carry(2, 1));
        Check.equal("effortSoFar() after an empty sack", 9 * 12 + 9 * 7 + 4 * 7, depot.effortSoFar());
        deliveryNeedsCarrying();
    }

    private static void deliveryNeedsCarrying() {
        ParcelDepot depot = Depots.addWeights(new ParcelDepot(), 4);
        depot.buildRoad(0, 5, 1);
        depot.carry(1, 5);
        depot.put(0, 1);
        Check.equal("state(0), put at its destination", 's', depot.state(0));
        Check.equal("carry(1, 0), away from its destination", 0, depot.carry(1, 0));
        Check.equal("carry(1, 5), to it from another place", 1, depot.carry(1, 5));
    }

    private static String states(ParcelDepot depot) {
        StringBuilder text = new StringBuilder();
        for (int parcel = 0; parcel < depot.parcelCount(); parcel++) {
            text.append(depot.state(parcel));
        }
        return text.toString();
    }

    private static void carryingIsRefused() {
        Check.promise(8);
        ParcelDepot depot = Depots.addWeights(new ParcelDepot(), 4);
        depot.buildRoad(0, 1, 2);
        depot.put(0, 0);
        String before = Depots.seen(depot);
        Check.refused("the same place", ARGUMENT, () -> depot.carry(0, 0));
        Check.refused("no way", ELEMENT, () -> depot.carry(0, 5));
        for (int sack : NO_SACKS) {
            Check.refused("no sack " + sack, INDEX, () -> depot.carry(sack, 1));
        }
        for (int place : NO_PLACES) {
            Check.refused("no place " + place, INDEX, () -> depot.carry(0, place));
        }
        Check.equal("the state after refusals", before, Depots.seen(depot));
        Check.equal("undoCount() after refusals", 3, depot.undoCount());
    }

    private static void sacksAreTold() {
        ParcelDepot depot = Depots.addWeights(new ParcelDepot(), 3, 4, 5, 6);
        depot.buildRoad(0, 5, 1);
        depot.buildRoad(0, 1, 1);
        depot.setCapacity(1, 11);
        depot.put(0, 1);
        depot.put(3, 1);
        depot.put(1, 2);
        depot.carry(1, 1);
        String[] due = {"0 30 0 0", "1 11 9 2", "0 30 4 1"};
        for (int sack = 0; sack < 3; sack++) {
            String[] numbers = due[sack].split(" ");
            Check.promise(31);
            Check.equal("place(" + sack + ")", Integer.valueOf(numbers[0]), depot.place(sack));
            Check.promise(32);
            Check.equal("capacity(" + sack + ")", Integer.valueOf(numbers[1]), depot.capacity(sack));
            Check.promise(33);
            Check.equal("load(" + sack + ")", Integer.valueOf(numbers[2]), depot.load(sack));
            Check.promise(34);
            Check.equal("parcelsIn(" + sack + ")", Integer.valueOf(numbers[3]), depot.parcelsIn(sack));
        }
        depot.carry(1, 5);
        depot.takeOut(1);
        for (int sack = 0; sack < 3; sack++) {
            Check.promise(33);
            Check.equal("load(" + sack + ") of an empty sack", 0, depot.load(sack));
            Check.promise(34);
            Check.equal("parcelsIn(" + sack + ") of an empty sack", 0, depot.parcelsIn(sack));
        }
    }

    private static void fittingIsCounted() {
        ParcelDepot depot = new ParcelDepot();
        countFitting(0, depot, 0);
        Depots.addWeights(depot, 20, 7, 4, 20, 1, 18);
        countFitting(4, depot, 0);
        depot.setCapacity(0, 29);
        countFitting(3, depot, 0);
        depot.setCapacity(0, 1);
        countFitting(1, depot, 0);
        depot.setCapacity(0, 60);
        countFitting(5, depot, 0);
        depot.put(0, 0);
        countFitting(4, depot, 0);
        countFitting(4, depot, 1);
        depot.put(3, 1);
        countFitting(2, depot, 1);
        depot.setCapacity(1, 20);
        countFitting(0, depot, 1);
        countFitting(4, depot, 2);
        depot.takeOut(0);
        depot.put(4, 2);
        depot.setCapacity(2, 4);
        countFitting(0, depot, 2);
        countFitting(1, Depots.addWeights(new ParcelDepot(), 20, 20), 0);
        countFitting(2, Depots.addHazards(new ParcelDepot(), 3, 3), 0);
        ParcelDepot full = Depots.addWeights(new ParcelDepot(), 5, 5, 5, 5, 5, 5, 5, 5, 5, 5, 5, 5);
        full.setCapacity(2, 60);
        countFitting(12, full, 2);
        countFitting(6, full, 1);
        full.setCapacity(2, 59);
        countFitting(11, full, 2);
        full.buildRoad(0, 5, 1);
        full.put(0, 0);
        full.carry(0, 5);
        full.setCapacity(2, 60);
        countFitting(11, full, 2);
    }

    private static void countFitting(int due, ParcelDepot depot, int sack) {
        Check.promise(35);
        Check.equal("mostFitting(" + sack + ")", due, depot.mostFitting(sack));
        Check.promise(36);
        Check.equal("mostFittingByTable(" + sack + ")", due, depot.mostFittingByTable(sack));
    }

    private static void effortsAreTold() {
        ParcelDepot depot = Depots.addWeights(new ParcelDepot(), 3, 4);
        depot.buildRoad(0, 1, 20);
        depot.buildRoad(1, 2, 3);
        depot.put(0, 0);
        depot.put(1, 0);
        Check.promise(37);
        Check.equal("effortTo(0, 2)", 23 * 7, depot.effortTo(0, 2));
        Check.equal("effortTo(0, 0)", 0, depot.effortTo(0, 0));
        Check.equal("effortTo(1, 2) of an empty sack", 0, depot.effortTo(1, 2));
        Check.refused("no way", ELEMENT, () -> depot.effortTo(0, 5));
        Check.refused("no way for an empty sack", ELEMENT, () -> depot.effortTo(1, 5));
        for (int sack : NO_SACKS) {
            Check.refused("no sack " + sack, INDEX, () -> depot.effortTo(sack, 5));
        }
        for (int place : NO_PLACES) {
            Check.refused("no place " + place, INDEX, () -> depot.effortTo(0, place));
        }
        Check.promise(38);
        Check.equal("effortSoFar() before carrying", 0, depot.effortSoFar());
        depot.carry(0, 1);
        Check.equal("effortSoFar()", 140, depot.effortSoFar());
        depot.carry(0, 2);
        Check.equal("effortSoFar() after more", 161, depot.effortSoFar());
        depot.carry(1, 2);
        Check.equal("effortSoFar() after an empty sack", 161, depot.effortSoFar());
        Check.promise(37);
        Check.equal("effortTo(0, 0) from where it is now", 161, depot.effortTo(0, 0));
        Check.equal("effortTo(0, 2), there", 0, depot.effortTo(0, 2));
    }

    private static void unknownSacksAreRefused() {
        ParcelDepot depot = new ParcelDepot();
        for (int sack : NO_SACKS) {
            Check.promise(31);
            Check.refused("place(" + sack + ")", INDEX, () -> depot.place(sack));
            Check.promise(32);
            Check.refused("capacity(" + sack + ")", INDEX, () -> depot.capacity(sack));
            Check.promise(33);
            Check.refused("load(" + sack + ")", INDEX, () -> depot.load(sack));
            Check.promise(34);
            Check.refused("parcelsIn(" + sack + ")", INDEX, () -> depot.parcelsIn(sack));
            Check.promise(35);
            Check.refused("mostFitting(" + sack + ")", INDEX, () -> depot.mostFitting(sack));
            Check.promise(36);
            Check.refused("mostFittingByTable(" + sack + ")", INDEX, () -> depot.mostFittingByTable(sack));
        }
    }

    private static void depotsAreConsistent() {
        Check.promise(43);
        ParcelDepot depot = Depots.withGloves(1, 2, 3, 3);
        Check.equal("isConsistent() without parcels", true, depot.isConsistent());
        Depots.run(depot, "road 0-1 20;road 1-2 1;road 4-5 3;parcel 20 3 1");
        Depots.run(depot, "parcel 10 2 0;parcel 1 0 2;parcel 7 1 4;put 0 0;put 1 0");
        Check.equal("isConsistent() with a full sack", true, depot.isConsistent());
        depot.carry(0, 1);
        depot.comeBack(0);
        Check.equal("isConsistent() after a parcel came back", true, depot.isConsistent());
        Check.equal("undoCount() after isConsistent()", 6, depot.undoCount() - 2);
    }
}
