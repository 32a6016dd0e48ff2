import java.util.NoSuchElementException;

/** Promises 1, 2 and 10 to 14: a test for each of their sentences. */
final class RoadEdgesTest {
    private static final Class<IndexOutOfBoundsException> INDEX = IndexOutOfBoundsException.class;
    private static final Class<IllegalArgumentException> ARGUMENT = IllegalArgumentException.class;
    private static final Class<IllegalStateException> STATE = IllegalStateException.class;
    private static final Class<NoSuchElementException> ELEMENT = NoSuchElementException.class;

    private RoadEdgesTest() {
    }

    static void run() {
        firstCallsOfANewDepot();
        firstRefusalsOfANewDepot();
        buildRoad();
        buildRoadRefused();
        roadCount();
        roadLength();
        distance();
        distanceByRounds();
        farthestPlace();
        farthestOfSeveral();
    }

    private static void firstCallsOfANewDepot() {
        Check.sentence(1, "Creates a depot without roads, parcels and gloves.");
        Check.equal("buildRoad(1, 2, 3)", 1, new ParcelDepot().buildRoad(1, 2, 3));
        Check.equal("acceptParcel(1, 2, 3)", 0, new ParcelDepot().acceptParcel(1, 2, 3));
        Check.equal("buyGlove(1)", 0, new ParcelDepot().buyGlove(1));
        Check.equal("setCapacity(2, 1)", 30, new ParcelDepot().setCapacity(2, 1));
        Check.equal("roadCount()", 0, new ParcelDepot().roadCount());
        Check.equal("distance(5, 5)", 0, new ParcelDepot().distance(5, 5));
        Check.equal("distanceByRounds(5, 5)", 0, new ParcelDepot().distanceByRounds(5, 5));
        Check.equal("farthestPlace(5)", 5, new ParcelDepot().farthestPlace(5));
        Check.equal("parcelCount()", 0, new ParcelDepot().parcelCount());
        Check.equal("waitingCount()", 0, new ParcelDepot().waitingCount());
        Check.equal("deliveredCount()", 0, new ParcelDepot().deliveredCount());
        Check.equal("gloveCount()", 0, new ParcelDepot().gloveCount());
        Check.equal("handleable()", 0, new ParcelDepot().handleable());
        Check.equal("handleableByShortage()", 0, new ParcelDepot().handleableByShortage());
        Check.equal("place(2)", 0, new ParcelDepot().place(2));
        Check.equal("capacity(2)", 30, new ParcelDepot().capacity(2));
        Check.equal("load(2)", 0, new ParcelDepot().load(2));
        Check.equal("parcelsIn(2)", 0, new ParcelDepot().parcelsIn(2));
        Check.equal("mostFitting(2)", 0, new ParcelDepot().mostFitting(2));
        Check.equal("mostFittingByTable(2)", 0, new ParcelDepot().mostFittingByTable(2));
        Check.equal("effortTo(2, 0)", 0, new ParcelDepot().effortTo(2, 0));
        Check.equal("effortSoFar()", 0, new ParcelDepot().effortSoFar());
        Check.equal("glovesUsedUp()", 0, new ParcelDepot().glovesUsedUp());
        Check.equal("isConsistent()", true, new ParcelDepot().isConsistent());
        Check.equal("feed('x')", 1, new ParcelDepot().feed('x'));
        Check.equal("writeSack(2)", 4, new ParcelDepot().writeSack(2));
        Check.equal("undoCount()", 0, new ParcelDepot().undoCount());
        Check.equal("save()", 0, new ParcelDepot().save());
    }

    private static void firstRefusalsOfANewDepot() {
        Check.sentence(1, "Creates a depot without roads, parcels and gloves.");
        Check.refused("put(0, 0)", INDEX, () -> new ParcelDepot().put(0, 0));
        Check.refused("takeOut(0)", INDEX, () -> new ParcelDepot().takeOut(0));
        Check.refused("carry(0, 1)", ELEMENT, () -> new ParcelDepot().carry(0, 1));
        Check.refused("carry(0, 0)", ARGUMENT, () -> new ParcelDepot().carry(0, 0));
        Check.refused("comeBack(0)", INDEX, () -> new ParcelDepot().comeBack(0));
        Check.refused("roadLength(0, 1)", ELEMENT, () -> new ParcelDepot().roadLength(0, 1));
        Check.refused("distance(0, 1)", ELEMENT, () -> new ParcelDepot().distance(0, 1));
        Check.refused("distanceByRounds(0, 1)", ELEMENT, () -> new ParcelDepot().distanceByRounds(0, 1));
        Check.refused("weight(0)", INDEX, () -> new ParcelDepot().weight(0));
        Check.refused("hazard(0)", INDEX, () -> new ParcelDepot().hazard(0));
        Check.refused("destination(0)", INDEX, () -> new ParcelDepot().destination(0));
        Check.refused("state(0)", INDEX, () -> new ParcelDepot().state(0));
        Check.refused("sackOf(0)", INDEX, () -> new ParcelDepot().sackOf(0));
        Check.refused("returns(0)", INDEX, () -> new ParcelDepot().returns(0));
        Check.refused("grade(0)", INDEX, () -> new ParcelDepot().grade(0));
        Check.refused("usesLeft(0)", INDEX, () -> new ParcelDepot().usesLeft(0));
        Check.refused("gloveFor(0)", INDEX, () -> new ParcelDepot().gloveFor(0));
        Check.refused("canHandle(0)", INDEX, () -> new ParcelDepot().canHandle(0));
        Check.refused("effortTo(0, 1)", ELEMENT, () -> new ParcelDepot().effortTo(0, 1));
        Check.refused("heaviest(0)", ELEMENT, () -> new ParcelDepot().heaviest(0));
        Check.refused("meanHazard()", ArithmeticException.class, () -> new ParcelDepot().meanHazard());
        Check.refused("deliveredShare()", ArithmeticException.class, () -> new ParcelDepot().deliveredShare());
        Check.refused("runCommands()", ARGUMENT, () -> new ParcelDepot().runCommands());
        Check.refused("errorPosition()", ELEMENT, () -> new ParcelDepot().errorPosition());
        Check.refused("failedCommand()", ELEMENT, () -> new ParcelDepot().failedCommand());
        Check.refused("outputChar(0)", INDEX, () -> new ParcelDepot().outputChar(0));
        Check.refused("undo()", STATE, () -> new ParcelDepot().undo());
        Check.refused("restore()", STATE, () -> new ParcelDepot().restore());
    }

    private static void buildRoad() {
        Check.sentence(2, "Builds a road.");
        ParcelDepot depot = new ParcelDepot();
        depot.buildRoad(2, 4, 13);
        Check.equal("the road", 13, depot.roadLength(2, 4));
        Check.refused("another road", ELEMENT, () -> depot.roadLength(2, 3));
        Check.sentence(2, "`first`: a place, 0 to 5");
        Check.range("first", 0, 5, INDEX, place -> new ParcelDepot().buildRoad(place, 2, 1));
        Check.sentence(2, "`second`: another place, 0 to 5");
        Check.range("second", 0, 5, INDEX, place -> new ParcelDepot().buildRoad(2, place, 1));
        Check.refused("no other place", ARGUMENT, () -> new ParcelDepot().buildRoad(5, 5, 1));
        Check.sentence(2, "`length`: the length, 1 to 20");
        Check.range("length", 1, 20, ARGUMENT, length -> new ParcelDepot().buildRoad(0, 5, length));
        for (int length : new int[] {1, 20}) {
            ParcelDepot road = new ParcelDepot();
            road.buildRoad(0, 5, length);
            Check.equal("the length that was let in", length, road.roadLength(5, 0));
        }
        Check.sentence(2, "Returns the number of roads afterwards.");
        ParcelDepot count = new ParcelDepot();
        Check.equal("the first road", 1, count.buildRoad(0, 1, 1));
        Check.equal("the second road", 2, count.buildRoad(0, 2, 1));
        count.undo();
        Check.equal("the second road again", 2, count.buildRoad(0, 2, 1));
        Check.equal("the last road", 15, withAllRoads(0).roadCount());
    }

    /** All roads but some of the last ones, each of length 20. */
    private static ParcelDepot withAllRoads(int missing) {
        ParcelDepot depot = new ParcelDepot();
        int roads = 0;
        for (int first = 0; first < 6; first++) {
            for (int second = first + 1; second < 6 && roads < 15 - missing; second++) {
                roads++;
                Check.equal("the road " + first + "-" + second, roads, depot.buildRoad(first, second, 20));
            }
        }
        return depot;
    }

    private static void buildRoadRefused() {
        ParcelDepot depot = withAllRoads(1);
        Check.sentence(2, "Throws `IndexOutOfBoundsException` if either place does not exist");
        Check.beyond("first", 0, 5, INDEX, place -> depot.buildRoad(place, 5, 1));
        Check.beyond("second", 0, 5, INDEX, place -> depot.buildRoad(4, place, 1));
        Check.beyond("both", 0, 5, INDEX, place -> depot.buildRoad(place, place, 1));
        Check.beyond("first before the length", 0, 5, INDEX, place -> depot.buildRoad(place, 5, 21));
        Check.sentence(2, "Throws `IllegalArgumentException` if both places are the same, or the length");
        Check.refused("place 0 twice", ARGUMENT, () -> depot.buildRoad(0, 0, 1));
        Check.refused("place 5 twice", ARGUMENT, () -> depot.buildRoad(5, 5, 20));
        Check.beyond("length", 1, 20, ARGUMENT, length -> depot.buildRoad(4, 5, length));
        Check.beyond("length before the road that is there", 1, 20, ARGUMENT, length -> depot.buildRoad(3, 5, length));
        Check.sentence(2, "Throws `IllegalStateException` if a road joins these two places");
        Check.refused("a road that is there", STATE, () -> depot.buildRoad(3, 5, 20));
        Check.refused("a road that is there the other way", STATE, () -> depot.buildRoad(5, 3, 1));
        Check.equal("the road that is not there", 15, depot.buildRoad(5, 4, 1));
        Check.refused("that road again", STATE, () -> depot.buildRoad(4, 5, 1));
        depot.undo();
        Check.equal("that road after undo", 15, depot.buildRoad(4, 5, 1));
    }

    private static void roadCount() {
        Check.sentence(10, "Returns the number of roads.");
        ParcelDepot depot = new ParcelDepot();
        depot.buildRoad(0, 1, 1);
        depot.buildRoad(0, 2, 1);
        Check.refused("a road that is there", STATE, () -> depot.buildRoad(2, 0, 1));
        Check.equal("two roads", 2, depot.roadCount());
        depot.undo();
        Check.equal("one road after undo", 1, depot.roadCount());
        Check.sentence(10, "Returns the number, 0 to 15.");
        Check.equal("no roads", 0, new ParcelDepot().roadCount());
        Check.equal("all roads but one", 14, withAllRoads(1).roadCount());
        Check.equal("all roads", 15, withAllRoads(0).roadCount());
    }

    private static void roadLength() {
        ParcelDepot depot = new ParcelDepot();
        depot.buildRoad(0, 5, 20);
        depot.buildRoad(5, 1, 1);
        depot.buildRoad(0, 1, 2);
        Check.sentence(11, "Returns the length of the road that joins two places.");
        Check.equal("the road, not the shortest way", 20, depot.roadLength(0, 5));
        Check.equal("the road the other way", 20, depot.roadLength(5, 0));
        Check.sentence(11, "Returns the length.");
        Check.equal("the least length", 1, depot.roadLength(1, 5));
        Check.equal("the length of the last road", 2, depot.roadLength(1, 0));
        Check.sentence(11, "`first`: a place, 0 to 5");
        Check.range("first", 0, 5, INDEX, place -> depot.roadLength(place, 1));
        Check.sentence(11, "`second`: a place, 0 to 5");
        Check.range("second", 0, 5, INDEX, place -> depot.roadLength(1, place));
        Check.sentence(11, "Throws `IndexOutOfBoundsException` if either place does not exist");
        Check.beyond("first", 0, 5, INDEX, place -> depot.roadLength(place, 0));
        Check.beyond("second", 0, 5, INDEX, place -> depot.roadLength(0, place));
        Check.beyond("both", 0, 5, INDEX, place -> depot.roadLength(place, place));
        Check.sentence(11, "Throws `NoSuchElementException` if no road joins them");
        Check.refused("no road", ELEMENT, () -> depot.roadLength(2, 3));
        Check.refused("a way, but no road", ELEMENT, () -> depot.roadLength(0, 4));
        for (int place = 0; place < 6; place++) {
            int same = place;
            Check.refused("a place and itself", ELEMENT, () -> depot.roadLength(same, same));
        }
        depot.undo();
        Check.refused("a road that was undone", ELEMENT, () -> depot.roadLength(0, 1));
    }

    /** Places 0 to 3 are joined by a ring, 4 and 5 by a road. */
    private static ParcelDepot ring() {
        ParcelDepot depot = new ParcelDepot();
        depot.buildRoad(0, 1, 5);
        depot.buildRoad(1, 2, 6);
        depot.buildRoad(2, 3, 7);
        depot.buildRoad(3, 0, 19);
        depot.buildRoad(4, 5, 20);
        return depot;
    }

    private static void distance() {
        ParcelDepot depot = ring();
        Check.sentence(12, "Returns the distance of two places, computed");
        Check.equal("over a road", 5, depot.distance(1, 0));
        Check.equal("over two roads", 13, depot.distance(3, 1));
        Check.equal("over three roads, shorter than one", 18, depot.distance(0, 3));
        Check.sentence(12, "Returns the distance.");
        Check.equal("the other way", 18, depot.distance(3, 0));
        Check.equal("the greatest distance", 100, chain().distance(0, 5));
        Check.sentence(12, "`first`: a place, 0 to 5");
        Check.range("first", 0, 5, INDEX, place -> chain().distance(place, 3));
        Check.sentence(12, "`second`: a place, 0 to 5, which may be the same");
        Check.range("second", 0, 5, INDEX, place -> chain().distance(3, place));
        for (int place = 0; place < 6; place++) {
            Check.equal("distance of " + place + " to itself", 0, depot.distance(place, place));
        }
        Check.sentence(12, "Throws `IndexOutOfBoundsException` if either place does not exist");
        Check.beyond("first", 0, 5, INDEX, place -> depot.distance(place, 0));
        Check.beyond("second", 0, 5, INDEX, place -> depot.distance(0, place));
        Check.beyond("both", 0, 5, INDEX, place -> depot.distance(place, place));
        Check.sentence(12, "Throws `NoSuchElementException` if there is no distance");
        Check.refused("between two towns", ELEMENT, () -> depot.distance(3, 4));
        Check.refused("between two towns back", ELEMENT, () -> depot.distance(4, 3));
        depot.buildRoad(3, 4, 1);
        Check.equal("between two towns over a new road", 19, depot.distance(0, 4));
        depot.undo();
        Check.refused("between two towns after undo", ELEMENT, () -> depot.distance(0, 4));
    }

    /** The places in their order, each joined to the next by a road of length 20. */
    private static ParcelDepot chain() {
        ParcelDepot depot = new ParcelDepot();
        for (int place = 0; place < 5; place++) {
            depot.buildRoad(place, place + 1, 20);
        }
        return depot;
    }

    private static void distanceByRounds() {
        ParcelDepot depot = ring();
        Check.sentence(13, "Returns the same number as distance");
        for (int first = 0; first < 6; first++) {
            for (int second = 0; second < 6; second++) {
                int from = first;
                int to = second;
                Check.equal("distanceByRounds(" + from + ", " + to + ")",
                        Depots.answer(() -> depot.distance(from, to)),
                        Depots.answer(() -> depot.distanceByRounds(from, to)));
            }
        }
        Check.sentence(13, "Returns the distance.");
        Check.equal("over three roads, shorter than one", 18, depot.distanceByRounds(0, 3));
        Check.equal("the greatest distance", 100, chain().distanceByRounds(5, 0));
        Check.sentence(13, "`first`: a place, 0 to 5");
        Check.range("first", 0, 5, INDEX, place -> chain().distanceByRounds(place, 3));
        Check.sentence(13, "`second`: a place, 0 to 5, which may be the same");
        Check.range("second", 0, 5, INDEX, place -> chain().distanceByRounds(3, place));
        for (int place = 0; place < 6; place++) {
            Check.equal("distanceByRounds of " + place + " to itself", 0, depot.distanceByRounds(place, place));
        }
        Check.sentence(13, "Throws `IndexOutOfBoundsException` if either place does not exist");
        Check.beyond("first", 0, 5, INDEX, place -> depot.distanceByRounds(place, 0));
        Check.beyond("second", 0, 5, INDEX, place -> depot.distanceByRounds(0, place));
        Check.beyond("both", 0, 5, INDEX, place -> depot.distanceByRounds(place, place));
        Check.sentence(13, "Throws `NoSuchElementException` if there is no distance");
        Check.refused("between two towns", ELEMENT, () -> depot.distanceByRounds(3, 4));
        depot.buildRoad(3, 4, 1);
        Check.equal("between two towns over a new road", 39, depot.distanceByRounds(0, 5));
        depot.undo();
        Check.refused("between two towns after undo", ELEMENT, () -> depot.distanceByRounds(0, 5));
    }

    private static void farthestPlace() {
        Check.sentence(14, "Returns the place that has the greatest distance from a place");
        ParcelDepot depot = ring();
        Check.equal("from place 0", 3, depot.farthestPlace(0));
        Check.equal("from place 1", 3, depot.farthestPlace(1));
        Check.equal("from place 2", 0, depot.farthestPlace(2));
        Check.equal("from place 3", 0, depot.farthestPlace(3));
        Check.sentence(14, "Places without a distance are not considered.");
        Check.equal("from place 4", 5, depot.farthestPlace(4));
        Check.equal("from place 5", 4, depot.farthestPlace(5));
        Check.sentence(14, "`place`: a place, 0 to 5");
        Check.range("place", 0, 5, INDEX, place -> chain().farthestPlace(place));
        Check.equal("from the first place of a chain", 5, chain().farthestPlace(0));
        Check.equal("from the last place of a chain", 0, chain().farthestPlace(5));
        Check.sentence(14, "Returns the place, which is the given one if no other has a distance.");
        for (int place = 0; place < 6; place++) {
            Check.equal("without roads", place, new ParcelDepot().farthestPlace(place));
        }
        ParcelDepot lonely = new ParcelDepot();
        lonely.buildRoad(0, 1, 20);
        Check.equal("beside the roads of others", 4, lonely.farthestPlace(4));
        Check.sentence(14, "Throws `IndexOutOfBoundsException` if there is no such place");
        Check.beyond("place", 0, 5, INDEX, place -> depot.farthestPlace(place));
    }

    private static void farthestOfSeveral() {
        Check.sentence(14, "Returns the place that has the greatest distance from a place");
        ParcelDepot depot = new ParcelDepot();
        depot.buildRoad(3, 5, 6);
        depot.buildRoad(3, 4, 6);
        depot.buildRoad(3, 1, 6);
        depot.buildRoad(3, 0, 5);
        Check.equal("the least of three", 1, depot.farthestPlace(3));
        Check.equal("the least of two", 4, depot.farthestPlace(1));
        depot.buildRoad(3, 2, 7);
        Check.equal("the one that is farther by 1", 2, depot.farthestPlace(3));
    }
}
