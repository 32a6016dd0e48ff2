import java.util.NoSuchElementException;

/** Promises 1, 2 and 10 to 14: a new object, roads and distances. */
final class RoadsTest {
    private static final Class<IndexOutOfBoundsException> INDEX = IndexOutOfBoundsException.class;
    private static final Class<IllegalArgumentException> ARGUMENT = IllegalArgumentException.class;
    private static final Class<IllegalStateException> STATE = IllegalStateException.class;
    private static final Class<NoSuchElementException> ELEMENT = NoSuchElementException.class;
    private static final int[] NO_PLACES = {-1, 6, Integer.MIN_VALUE, Integer.MAX_VALUE};

    private RoadsTest() {
    }

    static void run() {
        newDepotIsEmpty();
        roadsAreBuilt();
        roadsAreRefused();
        roadsAreCounted();
        lengthsAreTold();
        distancesAreLeastSums();
        distancesAreRefused();
        farthestPlacesAreFound();
    }

    private static void newDepotIsEmpty() {
        Check.promise(1);
        ParcelDepot depot = new ParcelDepot();
        Check.equal("a new depot", "roads 0 - - - - - - - - - - - - - - - sack 0 30 sack 0 30 sack 0 30 sums 0 0",
                Depots.seen(depot));
        Check.equal("undoCount()", 0, depot.undoCount());
        Check.equal("waitingCount()", 0, depot.waitingCount());
        Check.equal("deliveredCount()", 0, depot.deliveredCount());
        Check.equal("handleable()", 0, depot.handleable());
        Check.equal("isConsistent()", true, depot.isConsistent());
        Check.refused("outputChar(0)", INDEX, () -> depot.outputChar(0));
        Check.equal("feed", 1, depot.feed('x'));
        new ParcelDepot().acceptParcel(1, 1, 1);
        Check.equal("parcelCount() beside another depot", 0, depot.parcelCount());
    }

    private static void roadsAreBuilt() {
        Check.promise(2);
        ParcelDepot depot = new ParcelDepot();
        Check.equal("buildRoad(0, 5, 1)", 1, depot.buildRoad(0, 5, 1));
        Check.equal("buildRoad(5, 1, 20)", 2, depot.buildRoad(5, 1, 20));
        Check.equal("roadLength(0, 5)", 1, depot.roadLength(0, 5));
        Check.equal("roadLength(1, 5)", 20, depot.roadLength(1, 5));
        Check.equal("roadLength(5, 1)", 20, depot.roadLength(5, 1));
        Check.equal("undoCount()", 2, depot.undoCount());
    }

    private static void roadsAreRefused() {
        ParcelDepot depot = new ParcelDepot();
        depot.buildRoad(0, 1, 7);
        String before = Depots.seen(depot);
        for (int place : NO_PLACES) {
            Check.refused("no first place " + place, INDEX, () -> depot.buildRoad(place, 1, 1));
            Check.refused("no second place " + place, INDEX, () -> depot.buildRoad(1, place, 1));
            Check.refused("no place before the same place", INDEX, () -> depot.buildRoad(place, place, 1));
            Check.refused("no place before the length", INDEX, () -> depot.buildRoad(1, place, 0));
        }
        for (int length : new int[] {0, 21, -1, Integer.MIN_VALUE, Integer.MAX_VALUE}) {
            Check.refused("the length " + length, ARGUMENT, () -> depot.buildRoad(2, 3, length));
            Check.refused("the length before the road", ARGUMENT, () -> depot.buildRoad(1, 0, length));
        }
        Check.refused("the same place", ARGUMENT, () -> depot.buildRoad(3, 3, 5));
        Check.refused("a road that is there", STATE, () -> depot.buildRoad(0, 1, 7));
        Check.refused("a road that is there the other way", STATE, () -> depot.buildRoad(1, 0, 3));
        Check.equal("the state after refusals", before, Depots.seen(depot));
        Check.equal("undoCount() after refusals", 1, depot.undoCount());
    }

    private static void roadsAreCounted() {
        Check.promise(10);
        ParcelDepot depot = new ParcelDepot();
        int count = 0;
        for (int first = 0; first < 6; first++) {
            for (int second = first + 1; second < 6; second++) {
                Check.equal("roadCount()", count, depot.roadCount());
                depot.buildRoad(second, first, 1 + first + second);
                count++;
            }
        }
        Check.equal("roadCount() of all roads", 15, depot.roadCount());
    }

    private static void lengthsAreTold() {
        Check.promise(11);
        ParcelDepot depot = new ParcelDepot();
        depot.buildRoad(0, 1, 2);
        depot.buildRoad(1, 2, 3);
        depot.buildRoad(0, 2, 19);
        Check.equal("roadLength(0, 2)", 19, depot.roadLength(0, 2));
        Check.equal("roadLength(2, 1)", 3, depot.roadLength(2, 1));
        Check.refused("no road", ELEMENT, () -> depot.roadLength(0, 3));
        Check.refused("no road to itself", ELEMENT, () -> depot.roadLength(1, 1));
        for (int place : NO_PLACES) {
            Check.refused("no first place", INDEX, () -> depot.roadLength(place, 0));
            Check.refused("no second place", INDEX, () -> depot.roadLength(0, place));
        }
    }

    private static ParcelDepot town() {
        ParcelDepot depot = new ParcelDepot();
        depot.buildRoad(0, 1, 10);
        depot.buildRoad(0, 2, 3);
        depot.buildRoad(2, 1, 4);
        depot.buildRoad(1, 3, 20);
        depot.buildRoad(4, 5, 9);
        return depot;
    }

    private static void distancesAreLeastSums() {
        ParcelDepot depot = town();
        int[][] dues = {{0, 0, 0}, {0, 1, 7}, {1, 0, 7}, {0, 3, 27}, {3, 2, 24}, {4, 5, 9}, {5, 5, 0}};
        for (int[] due : dues) {
            Check.promise(12);
            Check.equal("distance(" + due[0] + ", " + due[1] + ")", due[2], depot.distance(due[0], due[1]));
            Check.promise(13);
            Check.equal("distanceByRounds(" + due[0] + ", " + due[1] + ")", due[2],
                    depot.distanceByRounds(due[0], due[1]));
        }
        ParcelDepot chain = new ParcelDepot();
        int[] order = {3, 0, 5, 1, 4, 2};
        for (int index = 0; index < 5; index++) {
            chain.buildRoad(order[index], order[index + 1], 20);
        }
        Check.promise(12);
        Check.equal("distance along a chain", 100, chain.distance(2, 3));
        Check.promise(13);
        Check.equal("distanceByRounds along a chain", 100, chain.distanceByRounds(3, 2));
        chain.buildRoad(3, 2, 19);
        Check.promise(12);
        Check.equal("distance after a new road", 19, chain.distance(2, 3));
        Check.promise(13);
        Check.equal("distanceByRounds after a new road", 39, chain.distanceByRounds(4, 3));
    }

    private static void distancesAreRefused() {
        ParcelDepot depot = town();
        Check.promise(12);
        Check.refused("no way", ELEMENT, () -> depot.distance(0, 4));
        Check.promise(13);
        Check.refused("no way", ELEMENT, () -> depot.distanceByRounds(5, 3));
        for (int place : NO_PLACES) {
            Check.promise(12);
            Check.refused("no first place", INDEX, () -> depot.distance(place, 0));
            Check.refused("no second place", INDEX, () -> depot.distance(0, place));
            Check.refused("no places", INDEX, () -> depot.distance(place, place));
            Check.promise(13);
            Check.refused("no first place", INDEX, () -> depot.distanceByRounds(place, 0));
            Check.refused("no second place", INDEX, () -> depot.distanceByRounds(0, place));
            Check.refused("no places", INDEX, () -> depot.distanceByRounds(place, place));
        }
    }

    private static void farthestPlacesAreFound() {
        Check.promise(14);
        ParcelDepot depot = town();
        int[] due = {3, 3, 3, 0, 5, 4};
        for (int place = 0; place < 6; place++) {
            Check.equal("farthestPlace(" + place + ")", due[place], depot.farthestPlace(place));
        }
        Check.equal("farthestPlace without roads", 4, new ParcelDepot().farthestPlace(4));
        ParcelDepot star = new ParcelDepot();
        star.buildRoad(2, 5, 6);
        star.buildRoad(2, 3, 6);
        star.buildRoad(2, 0, 1);
        Check.equal("the least of several farthest", 3, star.farthestPlace(2));
        Check.equal("the least of several farthest ways", 3, star.farthestPlace(5));
        for (int place : NO_PLACES) {
            Check.refused("no place", INDEX, () -> depot.farthestPlace(place));
        }
    }
}
