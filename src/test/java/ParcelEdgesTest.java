import java.util.NoSuchElementException;

/** Promises 3, 9, 15 to 23 and 40 to 42: a test for each of their sentences. */
final class ParcelEdgesTest {
    private static final Class<IndexOutOfBoundsException> INDEX = IndexOutOfBoundsException.class;
    private static final Class<IllegalArgumentException> ARGUMENT = IllegalArgumentException.class;
    private static final Class<IllegalStateException> STATE = IllegalStateException.class;
    private static final Class<NoSuchElementException> ELEMENT = NoSuchElementException.class;

    private ParcelEdgesTest() {
    }

    static void run() {
        acceptParcel();
        acceptParcelRefused();
        comeBack();
        comeBackRefused();
        parcelCount();
        weight();
        hazard();
        destination();
        state();
        sackOf();
        returns();
        waitingCount();
        deliveredCount();
        heaviest();
        heaviestOfSome();
        meanHazard();
        deliveredShare();
    }

    private static ParcelDepot withTwelve() {
        return Depots.addWeights(new ParcelDepot(), 20, 2, 3, 4, 5, 6, 7, 8, 9, 10, 11, 1);
    }

    /** Parcels 0 to 3: delivered in sack 2 and back in the depot, delivered, in sack 2, waiting. */
    private static ParcelDepot mixed() {
        ParcelDepot depot = Depots.addWeights(Depots.withGloves(3), 6, 5, 4, 3);
        depot.buildRoad(0, 5, 1);
        depot.put(0, 2);
        depot.put(1, 2);
        depot.carry(2, 5);
        depot.put(2, 2);
        depot.comeBack(0);
        return depot;
    }

    private static void acceptParcel() {
        Check.sentence(3, "Accepts a parcel.");
        ParcelDepot depot = new ParcelDepot();
        depot.acceptParcel(13, 2, 4);
        Check.equal("the parcel", "13 2 4 w 0", depot.weight(0) + " " + depot.hazard(0) + " " + depot.destination(0)
                + " " + depot.state(0) + " " + depot.returns(0));
        Check.sentence(3, "`weight`: the weight, 1 to 20");
        Check.range("weight", 1, 20, ARGUMENT, weight -> new ParcelDepot().acceptParcel(weight, 3, 5));
        Check.sentence(3, "`hazard`: the hazard, 0 to 3");
        Check.range("hazard", 0, 3, ARGUMENT, hazard -> new ParcelDepot().acceptParcel(20, hazard, 5));
        Check.sentence(3, "`destination`: the destination, 0 to 5");
        Check.range("destination", 0, 5, INDEX, place -> new ParcelDepot().acceptParcel(20, 3, place));
        Check.sentence(3, "Returns the index of the parcel.");
        ParcelDepot counted = new ParcelDepot();
        for (int parcel = 0; parcel < 12; parcel++) {
            Check.equal("the index", parcel, counted.acceptParcel(1, 0, 0));
        }
        counted.undo();
        Check.equal("the index after undo", 11, counted.acceptParcel(1, 0, 0));
    }

    private static void acceptParcelRefused() {
        ParcelDepot depot = new ParcelDepot();
        Check.sentence(3, "Throws `IndexOutOfBoundsException` if there is no such place");
        Check.beyond("destination", 0, 5, INDEX, place -> depot.acceptParcel(1, 0, place));
        Check.beyond("destination before the weight", 0, 5, INDEX, place -> depot.acceptParcel(21, 4, place));
        Check.beyond("destination before the full store", 0, 5, INDEX, place -> withTwelve().acceptParcel(1, 0, place));
        Check.sentence(3, "Throws `IllegalArgumentException` if the weight or the hazard is out of range");
        Check.beyond("weight", 1, 20, ARGUMENT, weight -> depot.acceptParcel(weight, 0, 0));
        Check.beyond("hazard", 0, 3, ARGUMENT, hazard -> depot.acceptParcel(1, hazard, 0));
        Check.beyond("weight before the full store", 1, 20, ARGUMENT,
                weight -> withTwelve().acceptParcel(weight, 0, 0));
        Check.beyond("hazard before the full store", 0, 3, ARGUMENT, hazard -> withTwelve().acceptParcel(1, hazard, 0));
        Check.sentence(3, "Throws `IllegalStateException` if there are 12 parcels");
        ParcelDepot full = withTwelve();
        full.undo();
        Check.equal("the twelfth parcel", 11, full.acceptParcel(1, 0, 0));
        Check.refused("a thirteenth parcel", STATE, () -> full.acceptParcel(1, 0, 0));
        Check.equal("the parcels after that", 12, full.parcelCount());
    }

    private static void comeBack() {
        Check.sentence(9, "Lets a delivered parcel come back.");
        ParcelDepot depot = mixed();
        Check.equal("the state of a parcel that came back", 'w', depot.state(0));
        Check.equal("its returns", 1, depot.returns(0));
        Check.equal("the state of one that did not", 'd', depot.state(1));
        Check.refused("coming back twice", STATE, () -> depot.comeBack(0));
        Check.sentence(9, "`parcel`: index of a parcel");
        ParcelDepot all = withTwelve();
        Depots.run(all, "road 0-5 1;put 0 0;put 11 0;carry 0 5");
        Check.letsIn("the last parcel", () -> all.comeBack(11));
        Check.letsIn("the first parcel", () -> all.comeBack(0));
        Check.sentence(9, "Returns the hazard afterwards.");
        for (int hazard = 0; hazard <= 3; hazard++) {
            ParcelDepot other = Depots.addHazards(Depots.withGloves(3), hazard);
            Depots.run(other, "road 0-5 1;put 0 0;carry 0 5");
            Check.equal("the hazard of one with hazard " + hazard, Math.min(3, hazard + 1), other.comeBack(0));
        }
    }

    private static void comeBackRefused() {
        ParcelDepot depot = mixed();
        Check.sentence(9, "Throws `IndexOutOfBoundsException` if there is no such parcel");
        Check.beyond("parcel", 0, 3, INDEX, parcel -> depot.comeBack(parcel));
        Check.beyond("parcel of none", 0, -1, INDEX, parcel -> new ParcelDepot().comeBack(parcel));
        Check.beyond("parcel of twelve", 0, 11, INDEX, parcel -> withTwelve().comeBack(parcel));
        Check.sentence(9, "Throws `IllegalStateException` if the parcel was not delivered");
        Check.refused("a parcel in a sack at its destination", STATE, () -> depot.comeBack(2));
        Check.refused("a waiting parcel", STATE, () -> depot.comeBack(3));
        Check.letsIn("a delivered parcel", () -> depot.comeBack(1));
        depot.undo();
        Check.letsIn("that parcel after undo", () -> depot.comeBack(1));
    }

    private static void parcelCount() {
        Check.sentence(15, "Returns the number of parcels.");
        Check.equal("delivered, put and waiting ones", 4, mixed().parcelCount());
        Check.sentence(15, "Returns the number, 0 to 12.");
        Check.equal("none", 0, new ParcelDepot().parcelCount());
        Check.equal("one", 1, Depots.addWeights(new ParcelDepot(), 1).parcelCount());
        ParcelDepot depot = withTwelve();
        Check.equal("twelve", 12, depot.parcelCount());
        Check.refused("a thirteenth", STATE, () -> depot.acceptParcel(1, 0, 0));
        Check.equal("twelve after that", 12, depot.parcelCount());
        depot.undo();
        Check.equal("eleven after undo", 11, depot.parcelCount());
    }

    private static void weight() {
        ParcelDepot depot = withTwelve();
        Check.sentence(16, "Returns the weight of a parcel.");
        Check.equal("the weights in a sack, delivered and back", "6 5 4 3", weights(mixed()));
        Check.sentence(16, "Returns the weight.");
        Check.equal("the greatest weight", 20, depot.weight(0));
        Check.equal("the least weight", 1, depot.weight(11));
        Check.sentence(16, "`parcel`: index of a parcel");
        Check.range("parcel", 0, 11, INDEX, depot::weight);
        Check.sentence(16, "Throws `IndexOutOfBoundsException` if there is no such parcel");
        Check.beyond("parcel of twelve", 0, 11, INDEX, depot::weight);
        Check.beyond("parcel of four", 0, 3, INDEX, mixed()::weight);
        depot.undo();
        Check.beyond("parcel after undo", 0, 10, INDEX, depot::weight);
    }

    private static String weights(ParcelDepot depot) {
        StringBuilder text = new StringBuilder();
        for (int parcel = 0; parcel < depot.parcelCount(); parcel++) {
            text.append(parcel == 0 ? "" : " ").append(depot.weight(parcel));
        }
        return text.toString();
    }

    private static void hazard() {
        ParcelDepot depot = Depots.addHazards(new ParcelDepot(), 3, 1, 1, 1, 1, 1, 1, 1, 1, 1, 2, 0);
        Check.sentence(17, "Returns the hazard of a parcel.");
        Check.equal("the hazard before the last", 2, depot.hazard(10));
        Check.equal("a hazard that increased", 1, mixed().hazard(0));
        Check.equal("a hazard that did not", 0, mixed().hazard(1));
        Check.sentence(17, "Returns the hazard.");
        Check.equal("the greatest hazard", 3, depot.hazard(0));
        Check.equal("the least hazard", 0, depot.hazard(11));
        Check.sentence(17, "`parcel`: index of a parcel");
        Check.range("parcel", 0, 11, INDEX, depot::hazard);
        Check.sentence(17, "Throws `IndexOutOfBoundsException` if there is no such parcel");
        Check.beyond("parcel of twelve", 0, 11, INDEX, depot::hazard);
        Check.beyond("parcel of four", 0, 3, INDEX, mixed()::hazard);
        depot.undo();
        Check.beyond("parcel after undo", 0, 10, INDEX, depot::hazard);
    }

    private static void destination() {
        ParcelDepot depot = new ParcelDepot();
        for (int parcel = 0; parcel < 12; parcel++) {
            depot.acceptParcel(1, 0, parcel % 6);
        }
        Check.sentence(18, "Returns the destination of a parcel.");
        Check.equal("the third destination", 2, depot.destination(2));
        Check.equal("the destination of a delivered parcel", 5, mixed().destination(1));
        Check.sentence(18, "Returns the place.");
        Check.equal("the least place", 0, depot.destination(0));
        Check.equal("the greatest place", 5, depot.destination(11));
        Check.sentence(18, "`parcel`: index of a parcel");
        Check.range("parcel", 0, 11, INDEX, depot::destination);
        Check.sentence(18, "Throws `IndexOutOfBoundsException` if there is no such parcel");
        Check.beyond("parcel of twelve", 0, 11, INDEX, depot::destination);
        Check.beyond("parcel of four", 0, 3, INDEX, mixed()::destination);
        depot.undo();
        Check.beyond("parcel after undo", 0, 10, INDEX, depot::destination);
    }

    private static void state() {
        ParcelDepot depot = withTwelve();
        Check.sentence(19, "Returns the state of a parcel.");
        for (int sack = 0; sack < 3; sack++) {
            depot.put(11, sack);
            Check.equal("the state in sack " + sack, 's', depot.state(11));
            depot.takeOut(11);
            Check.equal("the state out of sack " + sack, 'w', depot.state(11));
        }
        depot.put(11, 1);
        depot.undo();
        Check.equal("the state after undo", 'w', depot.state(11));
        Check.sentence(19, "Returns 'w', 's' or 'd'.");
        ParcelDepot mixed = mixed();
        Check.equal("the states", "wdsw", "" + mixed.state(0) + mixed.state(1) + mixed.state(2) + mixed.state(3));
        Check.sentence(19, "`parcel`: index of a parcel");
        Check.range("parcel", 0, 11, INDEX, depot::state);
        Check.sentence(19, "Throws `IndexOutOfBoundsException` if there is no such parcel");
        Check.beyond("parcel of twelve", 0, 11, INDEX, depot::state);
        Check.beyond("parcel of four", 0, 3, INDEX, mixed()::state);
        Check.beyond("parcel of none", 0, -1, INDEX, new ParcelDepot()::state);
    }

    private static void sackOf() {
        ParcelDepot depot = withTwelve();
        depot.put(0, 2);
        depot.put(11, 0);
        depot.put(5, 1);
        Check.sentence(20, "Returns the sack in which a parcel is.");
        Check.equal("another sack", 1, depot.sackOf(5));
        Check.sentence(20, "Returns the sack.");
        Check.equal("the first sack", 0, depot.sackOf(11));
        Check.equal("the last sack", 2, depot.sackOf(0));
        Check.sentence(20, "`parcel`: index of a parcel");
        Check.range("parcel", 0, 11, INDEX, depot::sackOf);
        Check.sentence(20, "Throws `IndexOutOfBoundsException` if there is no such parcel");
        Check.beyond("parcel of twelve", 0, 11, INDEX, depot::sackOf);
        Check.beyond("parcel of four", 0, 3, INDEX, mixed()::sackOf);
        Check.sentence(20, "Throws `NoSuchElementException` if the parcel is not in a sack");
        ParcelDepot mixed = mixed();
        Check.refused("a parcel that came back", ELEMENT, () -> mixed.sackOf(0));
        Check.refused("a delivered parcel", ELEMENT, () -> mixed.sackOf(1));
        Check.refused("a parcel never put", ELEMENT, () -> mixed.sackOf(3));
        mixed.takeOut(2);
        Check.refused("a parcel taken out", ELEMENT, () -> mixed.sackOf(2));
        mixed.undo();
        Check.equal("that parcel after undo", 2, mixed.sackOf(2));
    }

    private static void returns() {
        Check.sentence(21, "Returns how often a parcel has come back.");
        ParcelDepot depot = mixed();
        Check.equal("once", 1, depot.returns(0));
        Check.equal("never, though delivered", 0, depot.returns(1));
        depot.takeOut(2);
        Check.equal("never, though taken out", 0, depot.returns(2));
        Check.sentence(21, "Returns the number of times.");
        ParcelDepot often = Depots.addHazards(Depots.withGloves(3, 3, 3, 3), 3);
        often.buildRoad(0, 5, 1);
        for (int times = 1; times <= 6; times++) {
            Depots.run(often, times == 1 ? "put 0 0;carry 0 5" : "put 0 0;carry 0 0;carry 0 5");
            often.comeBack(0);
            Check.equal("the returns, also with the greatest hazard", times, often.returns(0));
        }
        often.undo();
        Check.equal("the returns after undo", 5, often.returns(0));
        ParcelDepot twelve = withTwelve();
        Check.sentence(21, "`parcel`: index of a parcel");
        Check.range("parcel", 0, 11, INDEX, twelve::returns);
        Check.sentence(21, "Throws `IndexOutOfBoundsException` if there is no such parcel");
        Check.beyond("parcel of twelve", 0, 11, INDEX, twelve::returns);
        Check.beyond("parcel of four", 0, 3, INDEX, depot::returns);
    }

    private static void waitingCount() {
        Check.sentence(22, "Returns the number of waiting parcels.");
        Check.equal("one back and one never put", 2, mixed().waitingCount());
        Check.sentence(22, "Returns the number of parcels.");
        Check.equal("none of none", 0, new ParcelDepot().waitingCount());
        ParcelDepot depot = withTwelve();
        Check.equal("twelve", 12, depot.waitingCount());
        depot.put(11, 2);
        Check.equal("eleven", 11, depot.waitingCount());
        depot.undo();
        Check.equal("twelve after undo", 12, depot.waitingCount());
        ParcelDepot one = Depots.addWeights(new ParcelDepot(), 1);
        one.put(0, 0);
        Check.equal("none of one", 0, one.waitingCount());
    }

    private static void deliveredCount() {
        Check.sentence(23, "Returns how many parcels are in the state of having been delivered.");
        Check.equal("one of two that were delivered", 1, mixed().deliveredCount());
        Check.sentence(23, "Returns the number of parcels.");
        Check.equal("none of none", 0, new ParcelDepot().deliveredCount());
        Check.equal("none of twelve", 0, withTwelve().deliveredCount());
        ParcelDepot depot = Depots.addWeights(new ParcelDepot(), 1, 1, 1, 1, 1, 1, 1, 1, 1, 1, 1, 1);
        depot.buildRoad(0, 5, 1);
        for (int parcel = 0; parcel < 12; parcel++) {
            depot.put(parcel, 0);
        }
        Check.equal("none of twelve in a sack", 0, depot.deliveredCount());
        depot.carry(0, 5);
        Check.equal("twelve", 12, depot.deliveredCount());
        depot.undo();
        Check.equal("none after undo", 0, depot.deliveredCount());
    }

    private static void heaviest() {
        Check.sentence(40, "Returns the parcel at a rank when all parcels that were not delivered are sorted");
        ParcelDepot depot = new ParcelDepot();
        int[][] parcels = {{5, 1}, {5, 3}, {6, 0}, {5, 1}, {4, 3}, {5, 3}};
        for (int[] parcel : parcels) {
            depot.acceptParcel(parcel[0], parcel[1], 5);
        }
        int[] due = {2, 1, 5, 0, 3, 4};
        for (int rank = 0; rank < due.length; rank++) {
            Check.equal("heaviest(" + rank + ")", due[rank], depot.heaviest(rank));
        }
        Check.sentence(40, "`rank`: the rank, counted from 0");
        Check.range("rank", 0, 5, ELEMENT, depot::heaviest);
        Check.range("rank of twelve", 0, 11, ELEMENT, withTwelve()::heaviest);
        Check.equal("the first rank of twelve", 0, withTwelve().heaviest(0));
        Check.sentence(40, "Returns the index of the parcel.");
        Check.equal("the last rank of twelve", 11, withTwelve().heaviest(11));
        Check.equal("the least index of the same parcels", 0,
                Depots.addWeights(new ParcelDepot(), 7, 7, 7).heaviest(0));
        Check.equal("the greatest index of the same parcels", 2,
                Depots.addWeights(new ParcelDepot(), 7, 7, 7).heaviest(2));
    }

    private static void heaviestOfSome() {
        Check.sentence(40, "Throws `NoSuchElementException` if there is no such rank");
        Check.beyond("rank of none", 0, -1, ELEMENT, new ParcelDepot()::heaviest);
        Check.beyond("rank of twelve", 0, 11, ELEMENT, withTwelve()::heaviest);
        ParcelDepot depot = mixed();
        Check.beyond("rank of three that were not delivered", 0, 2, ELEMENT, depot::heaviest);
        Check.equal("the first of them, back in the depot", 0, depot.heaviest(0));
        Check.equal("the second, in a sack", 2, depot.heaviest(1));
        depot.comeBack(1);
        Check.equal("the second of four", 1, depot.heaviest(1));
        Check.beyond("rank of four", 0, 3, ELEMENT, depot::heaviest);
        ParcelDepot delivered = Depots.addWeights(new ParcelDepot(), 1);
        Depots.run(delivered, "road 0-5 1;put 0 0;carry 0 5");
        Check.refused("the first rank with all delivered", ELEMENT, () -> delivered.heaviest(0));
        delivered.undo();
        Check.equal("the first rank after undo", 0, delivered.heaviest(0));
    }

    private static void meanHazard() {
        Check.sentence(41, "Returns the mean hazard of all parcels");
        Check.equal("the mean of one in three", 1.0 / 3.0, Depots.addHazards(new ParcelDepot(), 0, 1, 0).meanHazard());
        Check.equal("the mean with one that came back", 0.25, mixed().meanHazard());
        ParcelDepot delivered = Depots.addHazards(Depots.withGloves(2), 2, 0, 1);
        Depots.run(delivered, "road 0-5 1;put 0 1;carry 1 5;put 2 2");
        Check.equal("the mean of a delivered, a waiting and a put parcel", 1.0, delivered.meanHazard());
        Check.sentence(41, "Returns the mean.");
        Check.equal("the least mean", 0.0, Depots.addHazards(new ParcelDepot(), 0).meanHazard());
        Check.equal("the greatest mean", 3.0,
                Depots.addHazards(new ParcelDepot(), 3, 3, 3, 3, 3, 3, 3, 3, 3, 3, 3, 3).meanHazard());
        Check.equal("the mean of eleven", 32.0 / 11.0,
                Depots.addHazards(new ParcelDepot(), 3, 3, 3, 3, 3, 3, 3, 3, 3, 3, 2).meanHazard());
        Check.sentence(41, "Throws `ArithmeticException` if there are no parcels");
        Check.refused("no parcels", ArithmeticException.class, () -> new ParcelDepot().meanHazard());
        ParcelDepot depot = Depots.addHazards(new ParcelDepot(), 2);
        Check.equal("one parcel", 2.0, depot.meanHazard());
        depot.undo();
        Check.refused("no parcels after undo", ArithmeticException.class, depot::meanHazard);
    }

    private static void deliveredShare() {
        Check.sentence(42, "Returns the share of delivered parcels among all parcels");
        Check.equal("one of four", 0.25f, mixed().deliveredShare());
        ParcelDepot depot = Depots.addWeights(new ParcelDepot(), 1, 1, 1);
        Depots.run(depot, "road 0-5 1;put 0 0;carry 0 5");
        Check.equal("one of three", 1.0f / 3.0f, depot.deliveredShare());
        Check.sentence(42, "Returns the share.");
        Check.equal("none", 0.0f, withTwelve().deliveredShare());
        Depots.run(depot, "put 1 0;put 2 0;carry 0 0;carry 0 5");
        Check.equal("all", 1.0f, depot.deliveredShare());
        depot.undo();
        Check.equal("one of three after undo", 1.0f / 3.0f, depot.deliveredShare());
        Check.sentence(42, "Throws `ArithmeticException` if there are no parcels");
        Check.refused("no parcels", ArithmeticException.class, () -> new ParcelDepot().deliveredShare());
        ParcelDepot one = Depots.addWeights(new ParcelDepot(), 1);
        Check.equal("one parcel", 0.0f, one.deliveredShare());
        one.undo();
        Check.refused("no parcels after undo", ArithmeticException.class, one::deliveredShare);
    }
}
