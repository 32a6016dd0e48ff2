import java.util.NoSuchElementException;

/** Promises 3, 9, 15 to 23 and 40 to 42: parcels, what is told of them, and those that come back. */
final class ParcelsTest {
    private static final Class<IndexOutOfBoundsException> INDEX = IndexOutOfBoundsException.class;
    private static final Class<IllegalArgumentException> ARGUMENT = IllegalArgumentException.class;
    private static final Class<IllegalStateException> STATE = IllegalStateException.class;
    private static final Class<NoSuchElementException> ELEMENT = NoSuchElementException.class;

    private ParcelsTest() {
    }

    static void run() {
        parcelsAreAccepted();
        parcelsAreRefused();
        parcelsComeBack();
        parcelsAreTold();
        statesAreCounted();
        unknownParcelsAreRefused();
        parcelsAreRanked();
        meansAreFound();
        sharesAreFound();
    }

    /** Parcel 0 is delivered, 1 in sack 2 and 2 waits. */
    private static ParcelDepot mixed() {
        ParcelDepot depot = Depots.withGloves(3, 3);
        depot.buildRoad(0, 4, 2);
        depot.acceptParcel(20, 3, 4);
        depot.acceptParcel(1, 0, 0);
        depot.acceptParcel(9, 1, 5);
        depot.put(0, 2);
        depot.put(1, 2);
        depot.carry(2, 4);
        return depot;
    }

    private static void parcelsAreAccepted() {
        Check.promise(3);
        ParcelDepot depot = new ParcelDepot();
        Check.equal("acceptParcel(1, 0, 0)", 0, depot.acceptParcel(1, 0, 0));
        Check.equal("acceptParcel(20, 3, 5)", 1, depot.acceptParcel(20, 3, 5));
        Check.equal("weight, hazard and destination", "20 3 5",
                depot.weight(1) + " " + depot.hazard(1) + " " + depot.destination(1));
        Check.equal("state(1)", 'w', depot.state(1));
        Check.equal("returns(1)", 0, depot.returns(1));
        for (int parcel = 2; parcel < 12; parcel++) {
            Check.equal("acceptParcel", parcel, depot.acceptParcel(5, 1, 2));
        }
        Check.equal("undoCount()", 8, depot.undoCount());
    }

    private static void parcelsAreRefused() {
        Check.promise(3);
        ParcelDepot depot = new ParcelDepot();
        for (int round = 0; round < 2; round++) {
            String before = Depots.seen(depot);
            for (int place : new int[] {-1, 6, Integer.MIN_VALUE, Integer.MAX_VALUE}) {
                Check.refused("no place " + place, INDEX, () -> depot.acceptParcel(1, 0, place));
                Check.refused("no place before the weight", INDEX, () -> depot.acceptParcel(0, 4, place));
            }
            for (int weight : new int[] {0, 21, -1, Integer.MIN_VALUE, Integer.MAX_VALUE}) {
                Check.refused("the weight " + weight, ARGUMENT, () -> depot.acceptParcel(weight, 0, 0));
            }
            for (int hazard : new int[] {-1, 4, Integer.MIN_VALUE, Integer.MAX_VALUE}) {
                Check.refused("the hazard " + hazard, ARGUMENT, () -> depot.acceptParcel(1, hazard, 0));
            }
            Check.equal("the state after refusals", before, Depots.seen(depot));
            // In the second round the depot is full, and the arguments are still looked at first.
            while (depot.parcelCount() < 12) {
                depot.acceptParcel(1, 0, 0);
            }
        }
        String before = Depots.seen(depot);
        Check.refused("a thirteenth parcel", STATE, () -> depot.acceptParcel(1, 0, 0));
        Check.equal("the state after a thirteenth parcel", before, Depots.seen(depot));
    }

    private static void parcelsComeBack() {
        Check.promise(9);
        ParcelDepot depot = new ParcelDepot();
        depot.buildRoad(0, 1, 1);
        depot.acceptParcel(4, 0, 0);
        depot.acceptParcel(4, 0, 1);
        for (int glove = 0; glove < 4; glove++) {
            depot.buyGlove(3);
        }
        int[] due = {1, 2, 3, 3, 3};
        for (int round = 0; round < due.length; round++) {
            depot.put(1, 1);
            depot.carry(1, 1 - depot.place(1));
            if (depot.place(1) == 0) {
                depot.carry(1, 1);
            }
            Check.equal("state(1)", 'd', depot.state(1));
            int undoable = depot.undoCount();
            Check.equal("comeBack(1)", due[round], depot.comeBack(1));
            Check.equal("hazard(1)", due[round], depot.hazard(1));
            Check.equal("state(1) after it came back", 'w', depot.state(1));
            Check.equal("returns(1)", round + 1, depot.returns(1));
            Check.equal("undoCount()", Math.min(8, undoable + 1), depot.undoCount());
        }
        Check.equal("returns(0)", 0, depot.returns(0));
        ParcelDepot other = mixed();
        String before = Depots.seen(other);
        int undoable = other.undoCount();
        Check.refused("a parcel in a sack", STATE, () -> other.comeBack(1));
        Check.refused("a parcel that waits", STATE, () -> other.comeBack(2));
        for (int parcel : new int[] {-1, 3, 12, Integer.MIN_VALUE, Integer.MAX_VALUE}) {
            Check.refused("no parcel " + parcel, INDEX, () -> other.comeBack(parcel));
        }
        Check.equal("the state after refusals", before, Depots.seen(other));
        Check.equal("undoCount() after refusals", undoable, other.undoCount());
    }

    private static void parcelsAreTold() {
        ParcelDepot depot = mixed();
        Check.promise(15);
        Check.equal("parcelCount()", 3, depot.parcelCount());
        int[][] due = {{20, 3, 4}, {1, 0, 0}, {9, 1, 5}};
        for (int parcel = 0; parcel < 3; parcel++) {
            Check.promise(16);
            Check.equal("weight(" + parcel + ")", due[parcel][0], depot.weight(parcel));
            Check.promise(17);
            Check.equal("hazard(" + parcel + ")", due[parcel][1], depot.hazard(parcel));
            Check.promise(18);
            Check.equal("destination(" + parcel + ")", due[parcel][2], depot.destination(parcel));
            Check.promise(19);
            Check.equal("state(" + parcel + ")", "dsw".charAt(parcel), depot.state(parcel));
        }
        Check.promise(20);
        Check.equal("sackOf(1)", 2, depot.sackOf(1));
        Check.refused("sackOf a delivered parcel", ELEMENT, () -> depot.sackOf(0));
        Check.refused("sackOf a waiting parcel", ELEMENT, () -> depot.sackOf(2));
        Check.promise(21);
        Check.equal("returns(0)", 0, depot.returns(0));
        depot.comeBack(0);
        Check.equal("returns(0) after it came back", 1, depot.returns(0));
        Check.equal("returns(1)", 0, depot.returns(1));
        Check.promise(15);
        while (depot.parcelCount() < 12) {
            Check.equal("parcelCount()", depot.acceptParcel(1, 0, 0) + 1, depot.parcelCount());
        }
    }

    private static void statesAreCounted() {
        ParcelDepot depot = mixed();
        Check.promise(22);
        Check.equal("waitingCount()", 1, depot.waitingCount());
        Check.promise(23);
        Check.equal("deliveredCount()", 1, depot.deliveredCount());
        depot.comeBack(0);
        Check.promise(22);
        Check.equal("waitingCount() after one came back", 2, depot.waitingCount());
        Check.promise(23);
        Check.equal("deliveredCount() after one came back", 0, depot.deliveredCount());
        depot.takeOut(1);
        Check.promise(22);
        Check.equal("waitingCount() after one was taken out", 3, depot.waitingCount());
        depot.put(0, 0);
        Check.equal("waitingCount() after one was put", 2, depot.waitingCount());
    }

    private static void unknownParcelsAreRefused() {
        ParcelDepot depot = mixed();
        for (int parcel : new int[] {-1, 3, 11, 12, Integer.MIN_VALUE, Integer.MAX_VALUE}) {
            Check.promise(16);
            Check.refused("weight(" + parcel + ")", INDEX, () -> depot.weight(parcel));
            Check.promise(17);
            Check.refused("hazard(" + parcel + ")", INDEX, () -> depot.hazard(parcel));
            Check.promise(18);
            Check.refused("destination(" + parcel + ")", INDEX, () -> depot.destination(parcel));
            Check.promise(19);
            Check.refused("state(" + parcel + ")", INDEX, () -> depot.state(parcel));
            Check.promise(20);
            Check.refused("sackOf(" + parcel + ")", INDEX, () -> depot.sackOf(parcel));
            Check.promise(21);
            Check.refused("returns(" + parcel + ")", INDEX, () -> depot.returns(parcel));
        }
    }

    private static void parcelsAreRanked() {
        Check.promise(40);
        ParcelDepot depot = Depots.withGloves(3);
        depot.buildRoad(0, 1, 1);
        depot.acceptParcel(5, 1, 2);
        depot.acceptParcel(20, 0, 1);
        depot.acceptParcel(5, 3, 2);
        depot.acceptParcel(9, 0, 2);
        depot.acceptParcel(5, 1, 2);
        int[] due = {1, 3, 2, 0, 4};
        for (int rank = 0; rank < due.length; rank++) {
            Check.equal("heaviest(" + rank + ")", due[rank], depot.heaviest(rank));
        }
        depot.put(1, 0);
        Check.equal("heaviest(0) with that parcel in a sack", 1, depot.heaviest(0));
        depot.carry(0, 1);
        Check.equal("heaviest(0) with that parcel delivered", 3, depot.heaviest(0));
        Check.equal("heaviest(3)", 4, depot.heaviest(3));
        for (int rank : new int[] {-1, 4, 5, 12, Integer.MIN_VALUE, Integer.MAX_VALUE}) {
            Check.refused("heaviest(" + rank + ")", ELEMENT, () -> depot.heaviest(rank));
        }
        depot.comeBack(1);
        Check.equal("heaviest(0) with that parcel back", 1, depot.heaviest(0));
        Check.refused("heaviest(0) without parcels", ELEMENT, () -> new ParcelDepot().heaviest(0));
        ParcelDepot full = new ParcelDepot();
        for (int parcel = 0; parcel < 12; parcel++) {
            full.acceptParcel(parcel + 1, 0, 5);
        }
        for (int rank = 0; rank < 12; rank++) {
            Check.equal("heaviest(" + rank + ") of twelve", 11 - rank, full.heaviest(rank));
        }
        Check.refused("heaviest(12) of twelve", ELEMENT, () -> full.heaviest(12));
        full.undo();
        Check.equal("heaviest(0) after undo", 10, full.heaviest(0));
        Check.refused("heaviest(11) after undo", ELEMENT, () -> full.heaviest(11));
    }

    private static void meansAreFound() {
        Check.promise(41);
        Check.refused("meanHazard() without parcels", ArithmeticException.class, () -> new ParcelDepot().meanHazard());
        ParcelDepot depot = mixed();
        Check.equal("meanHazard()", 4.0 / 3.0, depot.meanHazard());
        Check.equal("meanHazard() of 0", 0.0, Depots.addHazards(new ParcelDepot(), 0, 0).meanHazard());
        Check.equal("meanHazard() of 3, 3", 3.0, Depots.addHazards(new ParcelDepot(), 3, 3).meanHazard());
        Check.equal("meanHazard() of 1, 2", 1.5, Depots.addHazards(new ParcelDepot(), 1, 2).meanHazard());
        ParcelDepot full = Depots.addHazards(new ParcelDepot(), 0, 0, 0, 0, 0, 0, 0, 0, 1, 1, 1, 3);
        Check.equal("meanHazard() of twelve", 0.5, full.meanHazard());
        full.undo();
        Check.equal("meanHazard() after undo", 3.0 / 11.0, full.meanHazard());
    }

    private static void sharesAreFound() {
        Check.promise(42);
        Check.refused("deliveredShare() without parcels", ArithmeticException.class,
                () -> new ParcelDepot().deliveredShare());
        ParcelDepot depot = mixed();
        Check.equal("deliveredShare()", 1.0f / 3.0f, depot.deliveredShare());
        depot.comeBack(0);
        Check.equal("deliveredShare() of none", 0.0f, depot.deliveredShare());
        ParcelDepot all = new ParcelDepot();
        Depots.run(all, "road 0-5 1;parcel 1 0 5;put 0 0;carry 0 5");
        Check.equal("deliveredShare() of all", 1.0f, all.deliveredShare());
    }
}
