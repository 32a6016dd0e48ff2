import java.util.NoSuchElementException;

/** Promises 5 to 8, 31 to 38 and 43: a test for each of their sentences. */
final class SackEdgesTest {
    private static final Class<IndexOutOfBoundsException> INDEX = IndexOutOfBoundsException.class;
    private static final Class<IllegalArgumentException> ARGUMENT = IllegalArgumentException.class;
    private static final Class<IllegalStateException> STATE = IllegalStateException.class;
    private static final Class<NoSuchElementException> ELEMENT = NoSuchElementException.class;
    private static final Class<UnsupportedOperationException> UNSUPPORTED = UnsupportedOperationException.class;

    private SackEdgesTest() {
    }

    static void run() {
        setCapacity();
        setCapacityRefused();
        put();
        putRefused();
        takeOut();
        takeOutRefused();
        carry();
        carryRefused();
        place();
        capacity();
        load();
        parcelsIn();
        mostFitting();
        mostFittingByTable();
        effortTo();
        effortSoFar();
        isConsistent();
    }

    /** Each place is joined to place 0, by a road as long as its number. */
    private static ParcelDepot star() {
        ParcelDepot depot = new ParcelDepot();
        for (int place = 1; place < 6; place++) {
            depot.buildRoad(0, place, place);
        }
        return depot;
    }

    private static ParcelDepot withWeights(int... weights) {
        return Depots.addWeights(new ParcelDepot(), weights);
    }

    /** A depot with harmless parcels of these weights, all in a sack. */
    private static ParcelDepot loaded(int sack, int... weights) {
        ParcelDepot depot = withWeights(weights);
        depot.setCapacity(sack, 60);
        for (int parcel = 0; parcel < weights.length; parcel++) {
            depot.put(parcel, sack);
        }
        return depot;
    }

    private static void setCapacity() {
        Check.sentence(5, "Sets the capacity of a sack.");
        ParcelDepot depot = new ParcelDepot();
        depot.setCapacity(1, 17);
        Check.equal("the capacity that was set", 17, depot.capacity(1));
        Check.equal("the others", "30 30", depot.capacity(0) + " " + depot.capacity(2));
        Check.sentence(5, "`sack`: the sack, 0 to 2");
        Check.range("sack", 0, 2, INDEX, sack -> new ParcelDepot().setCapacity(sack, 30));
        Check.sentence(5, "`capacity`: the capacity, 1 to 60");
        Check.range("capacity", 1, 60, ARGUMENT, capacity -> new ParcelDepot().setCapacity(2, capacity));
        depot.setCapacity(2, 1);
        Check.equal("the least capacity", 1, depot.capacity(2));
        depot.setCapacity(2, 60);
        Check.equal("the greatest capacity", 60, depot.capacity(2));
        Check.sentence(5, "Returns the previous capacity.");
        Check.equal("the capacity of a new sack", 30, depot.setCapacity(0, 60));
        Check.equal("the greatest one before the least", 60, depot.setCapacity(0, 1));
        Check.equal("the same one", 1, depot.setCapacity(0, 1));
        Check.equal("the one before undo", 1, depot.setCapacity(0, 9));
        depot.undo();
        Check.equal("the one after undo", 1, depot.setCapacity(0, 8));
    }

    private static void setCapacityRefused() {
        ParcelDepot depot = loaded(0, 20, 3);
        Check.sentence(5, "Throws `IndexOutOfBoundsException` if there is no such sack");
        Check.beyond("sack", 0, 2, INDEX, sack -> depot.setCapacity(sack, 30));
        Check.beyond("sack before the capacity", 0, 2, INDEX, sack -> depot.setCapacity(sack, 61));
        Check.sentence(5, "Throws `IllegalArgumentException` if the capacity is out of range");
        Check.beyond("capacity", 1, 60, ARGUMENT, capacity -> depot.setCapacity(1, capacity));
        Check.beyond("capacity before the load", 1, 60, ARGUMENT, capacity -> depot.setCapacity(0, capacity));
        Check.sentence(5, "Throws `IllegalStateException` if the load is greater than the capacity");
        Check.refused("one less than the load", STATE, () -> depot.setCapacity(0, 22));
        Check.refused("the least capacity", STATE, () -> depot.setCapacity(0, 1));
        Check.equal("as much as the load", 60, depot.setCapacity(0, 23));
        Check.equal("less in another sack", 30, depot.setCapacity(1, 22));
        Check.equal("the least capacity of an empty sack", 30, depot.setCapacity(2, 1));
    }

    private static void put() {
        Check.sentence(6, "Puts a waiting parcel into a sack.");
        ParcelDepot depot = withWeights(7, 8);
        depot.put(1, 2);
        Check.equal("the parcel that was put", "s 2", depot.state(1) + " " + depot.sackOf(1));
        Check.equal("the other one", 'w', depot.state(0));
        Check.sentence(6, "`parcel`: index of a parcel");
        Check.range("parcel", 0, 11, INDEX,
                parcel -> withWeights(1, 1, 1, 1, 1, 1, 1, 1, 1, 1, 1, 1).put(parcel, 0));
        Check.sentence(6, "`sack`: the sack, 0 to 2");
        Check.range("sack", 0, 2, INDEX, sack -> withWeights(1).put(0, sack));
        Check.sentence(6, "Returns the load of the sack afterwards.");
        Check.equal("the first parcel in an empty sack", 7, depot.put(0, 1));
        depot.takeOut(0);
        Check.equal("a second parcel", 15, depot.put(0, 2));
        Check.equal("a load of the greatest capacity", 60, Depots.addWeights(loaded(1, 20, 20, 19), 1).put(3, 1));
    }

    private static void putRefused() {
        ParcelDepot depot = loaded(1, 20, 10);
        depot.setCapacity(1, 30);
        depot.acceptParcel(1, 0, 5);
        Check.sentence(6, "Throws `IndexOutOfBoundsException` if there is no such parcel or sack");
        Check.beyond("parcel", 0, 2, INDEX, parcel -> depot.put(parcel, 0));
        Check.beyond("parcel of none", 0, -1, INDEX, parcel -> new ParcelDepot().put(parcel, 0));
        Check.beyond("sack", 0, 2, INDEX, sack -> depot.put(2, sack));
        Check.beyond("sack before the state", 0, 2, INDEX, sack -> depot.put(0, sack));
        Check.sentence(6, "Throws `IllegalStateException` if the parcel does not wait");
        Check.refused("in this sack", STATE, () -> depot.put(0, 1));
        Check.refused("in another sack", STATE, () -> depot.put(0, 0));
        ParcelDepot delivered = loaded(0, 1);
        delivered.buildRoad(0, 5, 1);
        delivered.carry(0, 5);
        Check.refused("delivered", STATE, () -> delivered.put(0, 0));
        delivered.comeBack(0);
        delivered.buyGlove(1);
        Check.equal("back again", 1, delivered.put(0, 0));
        Check.sentence(6, "Throws `UnsupportedOperationException` if the load would be greater than the capacity");
        Check.refused("a load of the capacity and 1", UNSUPPORTED, () -> depot.put(2, 1));
        depot.setCapacity(1, 31);
        Check.equal("a load of the capacity", 31, depot.put(2, 1));
        ParcelDepot heavy = withWeights(20);
        heavy.setCapacity(0, 19);
        Check.refused("the first parcel, above the capacity", UNSUPPORTED, () -> heavy.put(0, 0));
        heavy.setCapacity(0, 20);
        Check.equal("the first parcel, of the capacity", 20, heavy.put(0, 0));
        Check.sentence(6, "Throws `NoSuchElementException` if the parcel cannot be handled");
        ParcelDepot hazardous = Depots.addHazards(Depots.withGloves(2), 3, 2, 0);
        Check.refused("hazard 3 with grade 2", ELEMENT, () -> hazardous.put(0, 0));
        Check.letsIn("hazard 2 with grade 2", () -> hazardous.put(1, 0));
        Check.letsIn("its second use", () -> hazardous.takeOut(1));
        Check.letsIn("its third use", () -> hazardous.put(1, 0));
        hazardous.acceptParcel(1, 1, 0);
        Check.refused("hazard 1 with the glove gone", ELEMENT, () -> hazardous.put(3, 0));
        Check.letsIn("hazard 0 without gloves", () -> hazardous.put(2, 0));
    }

    private static void takeOut() {
        ParcelDepot depot = loaded(1, 5, 6, 7);
        depot.buildRoad(0, 4, 1);
        depot.carry(1, 4);
        Check.sentence(7, "Takes a parcel out of its sack by hand.");
        depot.takeOut(1);
        Check.equal("the load without it", 12, depot.load(1));
        Check.equal("the parcels without it", 2, depot.parcelsIn(1));
        Check.sentence(7, "It waits in the depot then, wherever the sack is.");
        Check.equal("its state", 'w', depot.state(1));
        Check.equal("the place of the sack", 4, depot.place(1));
        Check.equal("put into a sack elsewhere", 6, depot.put(1, 0));
        Check.sentence(7, "`parcel`: index of a parcel");
        Check.range("parcel", 0, 11, INDEX,
                parcel -> loaded(0, 1, 1, 1, 1, 1, 1, 1, 1, 1, 1, 1, 1).takeOut(parcel));
        Check.sentence(7, "Returns the sack.");
        for (int sack = 0; sack < 3; sack++) {
            Check.equal("sack " + sack, sack, loaded(sack, 3).takeOut(0));
        }
    }

    private static void takeOutRefused() {
        ParcelDepot depot = loaded(2, 1, 1);
        depot.acceptParcel(1, 0, 0);
        depot.buildRoad(0, 5, 1);
        Check.sentence(7, "Throws `IndexOutOfBoundsException` if there is no such parcel");
        Check.beyond("parcel", 0, 2, INDEX, depot::takeOut);
        Check.beyond("parcel of none", 0, -1, INDEX, new ParcelDepot()::takeOut);
        Check.sentence(7, "Throws `IllegalStateException` if the parcel is not in a sack");
        Check.refused("never put", STATE, () -> depot.takeOut(2));
        Check.letsIn("in a sack", () -> depot.takeOut(0));
        Check.refused("taken out before", STATE, () -> depot.takeOut(0));
        depot.carry(2, 5);
        Check.refused("delivered", STATE, () -> depot.takeOut(1));
        depot.undo();
        Check.letsIn("in the sack after undo", () -> depot.takeOut(1));
        Check.sentence(7, "Throws `NoSuchElementException` if the parcel cannot be handled");
        ParcelDepot worn = Depots.addHazards(Depots.withGloves(1, 2), 2);
        worn.put(0, 0);
        Check.letsIn("the second use of a glove", () -> worn.takeOut(0));
        worn.put(0, 0);
        Check.refused("the glove gone", ELEMENT, () -> worn.takeOut(0));
        worn.buyGlove(2);
        Check.letsIn("a new glove", () -> worn.takeOut(0));
    }

    private static void carry() {
        Check.sentence(8, "Carries a sack to another place.");
        ParcelDepot depot = star();
        depot.carry(1, 4);
        Check.equal("the places", "0 4 0", depot.place(0) + " " + depot.place(1) + " " + depot.place(2));
        depot.undo();
        Check.equal("the place after undo", 0, depot.place(1));
        Check.sentence(8, "`sack`: the sack, 0 to 2");
        Check.range("sack", 0, 2, INDEX, sack -> star().carry(sack, 3));
        Check.sentence(8, "`place`: the place, 0 to 5");
        Check.range("place", 0, 5, INDEX, place -> {
            ParcelDepot other = star();
            other.carry(2, 3);
            other.carry(2, place);
            Check.equal("the place that was let in", place, other.place(2));
        });
        Check.sentence(8, "Returns the number of parcels that are delivered.");
        Check.equal("none of an empty sack", 0, depot.carry(0, 5));
        ParcelDepot twelve = loaded(0, 1, 1, 1, 1, 1, 1, 1, 1, 1, 1, 1, 1);
        twelve.buildRoad(0, 1, 1);
        twelve.buildRoad(1, 5, 1);
        Check.equal("none at another place", 0, twelve.carry(0, 1));
        Check.equal("twelve at their destination", 12, twelve.carry(0, 5));
        twelve.carry(0, 1);
        Check.equal("none that were delivered before", 0, twelve.carry(0, 5));
    }

    private static void carryRefused() {
        ParcelDepot depot = star();
        depot.carry(1, 5);
        Check.sentence(8, "Throws `IndexOutOfBoundsException` if there is no such sack or place");
        Check.beyond("sack", 0, 2, INDEX, sack -> depot.carry(sack, 3));
        Check.beyond("place", 0, 5, INDEX, place -> depot.carry(1, place));
        Check.beyond("place before the way", 0, 5, INDEX, place -> new ParcelDepot().carry(1, place));
        Check.sentence(8, "Throws `IllegalArgumentException` if the sack is at this place");
        Check.refused("the place of a new sack", ARGUMENT, () -> depot.carry(0, 0));
        Check.refused("the place where it was carried", ARGUMENT, () -> depot.carry(1, 5));
        Check.letsIn("the place of another sack", () -> depot.carry(0, 5));
        Check.letsIn("the place where it was before", () -> depot.carry(1, 0));
        Check.sentence(8, "Throws `NoSuchElementException` if there is no way to this place");
        ParcelDepot towns = new ParcelDepot();
        towns.buildRoad(0, 1, 1);
        towns.buildRoad(2, 3, 1);
        Check.refused("another town, with an empty sack", ELEMENT, () -> towns.carry(0, 3));
        Check.refused("a place without roads", ELEMENT, () -> towns.carry(0, 5));
        towns.buildRoad(1, 2, 1);
        Check.letsIn("that town over a new road", () -> towns.carry(0, 3));
        towns.undo();
        towns.undo();
        Check.refused("that town after undo", ELEMENT, () -> towns.carry(0, 3));
    }

    private static void place() {
        Check.sentence(31, "Returns the place at which a sack is.");
        ParcelDepot depot = star();
        depot.carry(0, 5);
        depot.carry(2, 1);
        Check.equal("the places", "5 0 1", depot.place(0) + " " + depot.place(1) + " " + depot.place(2));
        Check.sentence(31, "Returns the place.");
        Check.equal("the greatest place", 5, depot.place(0));
        depot.carry(0, 0);
        Check.equal("the least place", 0, depot.place(0));
        Check.refused("carrying to the same place", ARGUMENT, () -> depot.carry(2, 1));
        Check.equal("the place after that", 1, depot.place(2));
        Check.sentence(31, "`sack`: the sack, 0 to 2");
        Check.range("sack", 0, 2, INDEX, depot::place);
        Check.sentence(31, "Throws `IndexOutOfBoundsException` if there is no such sack");
        Check.beyond("sack", 0, 2, INDEX, depot::place);
    }

    private static void capacity() {
        Check.sentence(32, "Returns the capacity of a sack.");
        ParcelDepot depot = new ParcelDepot();
        Check.equal("the capacity of a new sack", 30, depot.capacity(0));
        depot.setCapacity(0, 60);
        depot.setCapacity(2, 1);
        Check.equal("the capacities", "60 30 1", depot.capacity(0) + " " + depot.capacity(1) + " " + depot.capacity(2));
        Check.sentence(32, "Returns the capacity.");
        Check.refused("a capacity that is too great", ARGUMENT, () -> depot.setCapacity(0, 61));
        Check.equal("the greatest capacity after that", 60, depot.capacity(0));
        Check.refused("a capacity that is too small", ARGUMENT, () -> depot.setCapacity(2, 0));
        Check.equal("the least capacity after that", 1, depot.capacity(2));
        Check.sentence(32, "`sack`: the sack, 0 to 2");
        Check.range("sack", 0, 2, INDEX, depot::capacity);
        Check.sentence(32, "Throws `IndexOutOfBoundsException` if there is no such sack");
        Check.beyond("sack", 0, 2, INDEX, depot::capacity);
    }

    private static void load() {
        Check.sentence(33, "Returns the load of a sack.");
        ParcelDepot depot = loaded(1, 5, 6);
        depot.acceptParcel(9, 0, 5);
        Check.equal("the loads", "0 11 0", depot.load(0) + " " + depot.load(1) + " " + depot.load(2));
        Check.sentence(33, "Returns the load.");
        Check.equal("an empty sack", 0, new ParcelDepot().load(0));
        Check.equal("a full sack", 60, loaded(2, 20, 20, 20).load(2));
        depot.buildRoad(0, 5, 1);
        depot.carry(1, 5);
        Check.equal("a sack emptied by delivery", 0, depot.load(1));
        depot.undo();
        Check.equal("that sack after undo", 11, depot.load(1));
        Check.sentence(33, "`sack`: the sack, 0 to 2");
        Check.range("sack", 0, 2, INDEX, depot::load);
        Check.sentence(33, "Throws `IndexOutOfBoundsException` if there is no such sack");
        Check.beyond("sack", 0, 2, INDEX, depot::load);
    }

    private static void parcelsIn() {
        Check.sentence(34, "Returns the number of parcels in a sack.");
        ParcelDepot depot = loaded(1, 5, 6);
        depot.acceptParcel(9, 0, 5);
        Check.equal("the numbers", "0 2 0", depot.parcelsIn(0) + " " + depot.parcelsIn(1) + " " + depot.parcelsIn(2));
        Check.sentence(34, "Returns the number of parcels.");
        Check.equal("an empty sack", 0, new ParcelDepot().parcelsIn(0));
        Check.equal("all parcels", 12, loaded(2, 5, 5, 5, 5, 5, 5, 5, 5, 5, 5, 5, 5).parcelsIn(2));
        depot.takeOut(0);
        Check.equal("with one taken out", 1, depot.parcelsIn(1));
        depot.buildRoad(0, 5, 1);
        depot.carry(1, 5);
        Check.equal("with one delivered", 0, depot.parcelsIn(1));
        Check.sentence(34, "`sack`: the sack, 0 to 2");
        Check.range("sack", 0, 2, INDEX, depot::parcelsIn);
        Check.sentence(34, "Throws `IndexOutOfBoundsException` if there is no such sack");
        Check.beyond("sack", 0, 2, INDEX, depot::parcelsIn);
    }

    private static void mostFitting() {
        Check.sentence(35, "Returns the greatest number of waiting parcels that would fit into a sack together");
        fittingBesideTheLoad(ParcelDepot::mostFitting);
        fittingOfWaitingOnes(ParcelDepot::mostFitting);
        Check.sentence(35, "The result is found by taking lighter parcels first.");
        lighterOnesFirst(ParcelDepot::mostFitting);
        Check.sentence(35, "Returns the number of parcels.");
        fittingOfAll(ParcelDepot::mostFitting);
        Check.sentence(35, "`sack`: the sack, 0 to 2");
        Check.range("sack", 0, 2, INDEX, withWeights(1)::mostFitting);
        Check.sentence(35, "Throws `IndexOutOfBoundsException` if there is no such sack");
        Check.beyond("sack", 0, 2, INDEX, withWeights(1)::mostFitting);
    }

    private static void mostFittingByTable() {
        Check.sentence(36, "Returns the same number as mostFitting, found with a table");
        fittingBesideTheLoad(ParcelDepot::mostFittingByTable);
        fittingOfWaitingOnes(ParcelDepot::mostFittingByTable);
        lighterOnesFirst(ParcelDepot::mostFittingByTable);
        Check.sentence(36, "Returns the number of parcels.");
        fittingOfAll(ParcelDepot::mostFittingByTable);
        Check.sentence(36, "`sack`: the sack, 0 to 2");
        Check.range("sack", 0, 2, INDEX, withWeights(1)::mostFittingByTable);
        Check.sentence(36, "Throws `IndexOutOfBoundsException` if there is no such sack");
        Check.beyond("sack", 0, 2, INDEX, withWeights(1)::mostFittingByTable);
    }

    private interface Fitting {
        int into(ParcelDepot depot, int sack);
    }

    private static void fittingBesideTheLoad(Fitting most) {
        Check.equal("all of them, filling the sack", 3, most.into(withWeights(20, 9, 1), 0));
        Check.equal("too heavy together by 1", 2, most.into(withWeights(20, 9, 2), 0));
        Check.equal("all of them beside the load", 3, most.into(Depots.addWeights(loaded(1, 20, 20), 10, 9, 1), 1));
        Check.equal("too heavy beside the load by 1", 2,
                most.into(Depots.addWeights(loaded(1, 20, 20), 10, 10, 1), 1));
        Check.equal("another sack than the one with a load", 3,
                most.into(Depots.addWeights(loaded(1, 20, 20), 10, 10, 1), 2));
        Check.equal("one in the last room", 1, most.into(Depots.addWeights(loaded(0, 20, 20, 19), 2, 1), 0));
        Check.equal("none in the last room", 0, most.into(Depots.addWeights(loaded(0, 20, 20, 19), 2, 2), 0));
        Check.equal("none in a full sack", 0, most.into(Depots.addWeights(loaded(0, 20, 20, 20), 1, 1), 0));
        ParcelDepot small = withWeights(2, 1);
        small.setCapacity(2, 1);
        Check.equal("one in the least capacity", 1, most.into(small, 2));
        Check.equal("hazards that cannot be handled", 2, most.into(Depots.addHazards(new ParcelDepot(), 3, 1), 0));
    }

    private static void fittingOfWaitingOnes(Fitting most) {
        ParcelDepot depot = loaded(0, 4, 5);
        depot.buildRoad(0, 5, 1);
        Check.equal("none besides those in a sack", 0, most.into(depot, 0));
        Check.equal("none besides those in another sack", 0, most.into(depot, 1));
        depot.carry(0, 5);
        Check.equal("none besides delivered ones", 0, most.into(depot, 1));
        depot.comeBack(1);
        Check.equal("one that came back", 1, most.into(depot, 0));
        depot.undo();
        depot.undo();
        depot.takeOut(0);
        Check.equal("one taken out", 1, most.into(depot, 2));
        ParcelDepot fewer = withWeights(5, 6, 7);
        Check.equal("three", 3, most.into(fewer, 0));
        fewer.put(1, 1);
        Check.equal("two after one was put into another sack", 2, most.into(fewer, 0));
    }

    private static void lighterOnesFirst(Fitting most) {
        Check.equal("two light ones for a heavy one", 3, most.into(withWeights(20, 10, 10, 10), 0));
        Check.equal("light ones last", 4, most.into(withWeights(20, 19, 18, 17, 12, 6, 7, 5), 0));
        Check.equal("light ones filling the sack but for 1", 4, most.into(withWeights(9, 8, 7, 5, 11), 0));
        Check.equal("a heavy one not fitting beside them", 2, most.into(withWeights(20, 10, 11), 0));
    }

    private static void fittingOfAll(Fitting most) {
        Check.equal("none of none", 0, most.into(new ParcelDepot(), 0));
        ParcelDepot twelve = withWeights(5, 5, 5, 5, 5, 5, 5, 5, 5, 5, 5, 5);
        twelve.setCapacity(1, 60);
        Check.equal("twelve", 12, most.into(twelve, 1));
        twelve.setCapacity(1, 59);
        Check.equal("eleven of twelve", 11, most.into(twelve, 1));
        twelve.setCapacity(1, 4);
        Check.equal("none of twelve", 0, most.into(twelve, 1));
        twelve.undo();
        Check.equal("eleven after undo", 11, most.into(twelve, 1));
    }

    private static void effortTo() {
        Check.sentence(37, "Returns the effort of carrying a sack to a place.");
        ParcelDepot depot = loaded(1, 3, 4);
        depot.buildRoad(0, 1, 20);
        depot.buildRoad(0, 2, 6);
        depot.buildRoad(1, 2, 8);
        depot.buildRoad(1, 4, 20);
        Check.equal("along the shortest way", 98, depot.effortTo(1, 1));
        Check.equal("of an empty sack", 0, depot.effortTo(2, 1));
        Check.equal("the place after asking", 0, depot.place(1));
        Check.equal("the effort so far after asking", 0, depot.effortSoFar());
        depot.carry(1, 4);
        Check.equal("the effort so far", 34 * 7, depot.effortSoFar());
        Check.equal("from where the sack is", 28 * 7, depot.effortTo(1, 2));
        Check.sentence(37, "Returns the effort, 0 if the sack is there.");
        Check.equal("there, with a load", 0, depot.effortTo(1, 4));
        Check.equal("there, at the first place", 0, depot.effortTo(0, 0));
        Check.equal("there without roads", 0, loaded(2, 7).effortTo(2, 0));
        ParcelDepot far = loaded(0, 20, 20, 20);
        for (int place = 0; place < 5; place++) {
            far.buildRoad(place, place + 1, 20);
        }
        Check.equal("the greatest effort", 6000, far.effortTo(0, 5));
        Check.sentence(37, "`sack`: the sack, 0 to 2");
        Check.range("sack", 0, 2, INDEX, sack -> far.effortTo(sack, 5));
        Check.sentence(37, "`place`: the place, 0 to 5");
        Check.range("place", 0, 5, INDEX, place -> far.effortTo(1, place));
        Check.sentence(37, "Throws `IndexOutOfBoundsException` if there is no such sack or place");
        Check.beyond("sack", 0, 2, INDEX, sack -> far.effortTo(sack, 5));
        Check.beyond("sack before the way", 0, 2, INDEX, sack -> new ParcelDepot().effortTo(sack, 5));
        Check.beyond("place", 0, 5, INDEX, place -> far.effortTo(0, place));
        Check.beyond("both", 0, 5, INDEX, place -> far.effortTo(-1, place));
        Check.sentence(37, "Throws `NoSuchElementException` if there is no way to this place");
        Check.refused("no way with a load", ELEMENT, () -> depot.effortTo(1, 5));
        Check.refused("no way with an empty sack", ELEMENT, () -> depot.effortTo(0, 3));
        Check.refused("no roads", ELEMENT, () -> new ParcelDepot().effortTo(0, 1));
    }

    private static void effortSoFar() {
        Check.sentence(38, "Returns the sum of the efforts of all carrying so far.");
        ParcelDepot depot = Depots.addWeights(star(), 7, 8);
        depot.put(0, 0);
        depot.put(1, 1);
        depot.carry(0, 2);
        depot.carry(1, 3);
        Check.equal("of two sacks", 14 + 24, depot.effortSoFar());
        depot.carry(0, 0);
        Check.equal("of the way back", 14 + 24 + 14, depot.effortSoFar());
        depot.carry(2, 5);
        Check.equal("of an empty sack too", 52, depot.effortSoFar());
        Check.refused("carrying to the same place", ARGUMENT, () -> depot.carry(1, 3));
        Check.equal("after a refused call", 52, depot.effortSoFar());
        depot.undo();
        depot.undo();
        Check.equal("after undo", 38, depot.effortSoFar());
        Check.sentence(38, "Returns the sum.");
        Check.equal("before carrying", 0, star().effortSoFar());
        ParcelDepot far = loaded(0, 20, 20, 20);
        for (int place = 1; place < 5; place++) {
            far.buildRoad(place, place + 1, 20);
        }
        far.buildRoad(0, 1, 20);
        far.acceptParcel(1, 0, 0);
        for (int carrying = 1; carrying <= 400; carrying++) {
            far.carry(0, carrying % 2 == 1 ? 4 : 0);
        }
        Check.equal("of as much carrying as an object is used for", 400 * 80 * 60, far.effortSoFar());
    }

    private static void isConsistent() {
        Check.sentence(43, "Checks the state by a second method");
        ParcelDepot depot = loaded(1, 20, 20, 20);
        Check.equal("a load of the capacity", true, depot.isConsistent());
        Depots.addHazards(depot, 1, 2, 3, 3, 3, 3);
        Check.equal("more to handle than gloves", true, depot.isConsistent());
        depot.buyGlove(2);
        depot.buyGlove(3);
        depot.buildRoad(4, 5, 1);
        Check.equal("places without a way", true, depot.isConsistent());
        Check.sentence(43, "Returns true if all of this holds.");
        Check.equal("a new depot", true, new ParcelDepot().isConsistent());
        Check.equal("all roads", true, RulesTest.full().isConsistent());
        Check.equal("something of everything", true, RulesTest.busy().isConsistent());
    }
}
