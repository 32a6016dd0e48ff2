import java.util.NoSuchElementException;

/** Promises 4, 24 to 30 and 39: gloves, how they wear out, and what can be handled with them. */
final class GlovesTest {
    private static final Class<IndexOutOfBoundsException> INDEX = IndexOutOfBoundsException.class;
    private static final Class<IllegalArgumentException> ARGUMENT = IllegalArgumentException.class;
    private static final Class<IllegalStateException> STATE = IllegalStateException.class;
    private static final Class<NoSuchElementException> ELEMENT = NoSuchElementException.class;

    private GlovesTest() {
    }

    static void run() {
        glovesAreBought();
        glovesAreTold();
        glovesWearOut();
        gloveIsChosen();
        handlingIsTold();
        handleableIsCounted();
    }

    private static void glovesAreBought() {
        Check.promise(4);
        ParcelDepot depot = new ParcelDepot();
        for (int grade : new int[] {0, 4, -1, Integer.MIN_VALUE, Integer.MAX_VALUE}) {
            Check.refused("the grade " + grade, ARGUMENT, () -> depot.buyGlove(grade));
        }
        Check.equal("gloveCount() after refusals", 0, depot.gloveCount());
        Check.equal("undoCount() after refusals", 0, depot.undoCount());
        for (int glove = 0; glove < 8; glove++) {
            Check.equal("buyGlove", glove, depot.buyGlove(glove % 3 + 1));
            Check.equal("undoCount()", glove + 1, depot.undoCount());
            Check.equal("usesLeft of a new glove", 3, depot.usesLeft(glove));
        }
        Check.refused("a ninth glove", STATE, () -> depot.buyGlove(1));
        Check.refused("the grade before a ninth glove", ARGUMENT, () -> depot.buyGlove(4));
        Check.equal("gloveCount() after a ninth glove", 8, depot.gloveCount());
        Depots.addHazards(depot, 1);
        depot.put(0, 0);
        depot.takeOut(0);
        depot.put(0, 0);
        Check.equal("buyGlove in place of one that is gone", 7, depot.buyGlove(2));
        Check.equal("grade(7)", 2, depot.grade(7));
        Check.equal("usesLeft(7)", 3, depot.usesLeft(7));
    }

    private static void glovesAreTold() {
        ParcelDepot depot = Depots.withGloves(3, 1, 2);
        Depots.addHazards(depot, 2);
        Check.promise(24);
        Check.equal("gloveCount()", 3, depot.gloveCount());
        depot.put(0, 0);
        int[][] due = {{3, 3}, {1, 3}, {2, 2}};
        for (int glove = 0; glove < 3; glove++) {
            Check.promise(25);
            Check.equal("grade(" + glove + ")", due[glove][0], depot.grade(glove));
            Check.promise(26);
            Check.equal("usesLeft(" + glove + ")", due[glove][1], depot.usesLeft(glove));
        }
        depot.takeOut(0);
        Check.equal("usesLeft(2)", 1, depot.usesLeft(2));
        for (int glove : new int[] {-1, 3, 7, 8, Integer.MIN_VALUE, Integer.MAX_VALUE}) {
            Check.promise(25);
            Check.refused("grade(" + glove + ")", INDEX, () -> depot.grade(glove));
            Check.promise(26);
            Check.refused("usesLeft(" + glove + ")", INDEX, () -> depot.usesLeft(glove));
        }
        depot.put(0, 0);
        Check.promise(24);
        Check.equal("gloveCount() with one gone", 2, depot.gloveCount());
        Check.promise(25);
        Check.refused("grade(2) with one gone", INDEX, () -> depot.grade(2));
        Check.promise(26);
        Check.refused("usesLeft(2) with one gone", INDEX, () -> depot.usesLeft(2));
    }

    private static void glovesWearOut() {
        Check.promise(39);
        ParcelDepot depot = Depots.withGloves(2, 1, 3, 1);
        Depots.addHazards(depot, 1);
        int[] due = {0, 0, 1, 1, 1, 2, 2, 2, 3, 3, 3, 4};
        for (int index = 0; index < due.length; index++) {
            if (index % 2 == 0) {
                depot.put(0, 0);
            } else {
                depot.takeOut(0);
            }
            Check.promise(39);
            Check.equal("glovesUsedUp()", due[index], depot.glovesUsedUp());
            Check.promise(24);
            Check.equal("gloveCount()", 4 - due[index], depot.gloveCount());
        }
        Check.promise(25);
        ParcelDepot other = Depots.withGloves(1, 2, 3);
        Depots.addHazards(other, 2, 1);
        other.put(0, 0);
        other.put(1, 0);
        other.takeOut(0);
        other.put(0, 1);
        Check.equal("the grades behind one that is gone", "1 3", other.grade(0) + " " + other.grade(1));
        Check.promise(26);
        Check.equal("the uses behind one that is gone", "2 3", usesOf(other));
    }

    private static void gloveIsChosen() {
        Check.promise(27);
        ParcelDepot depot = Depots.withGloves(3, 2, 1, 2, 1);
        Depots.addHazards(depot, 1, 2, 3, 0, 1);
        Check.equal("gloveFor(0)", 2, depot.gloveFor(0));
        Check.equal("gloveFor(1)", 1, depot.gloveFor(1));
        Check.equal("gloveFor(2)", 0, depot.gloveFor(2));
        Check.refused("gloveFor a harmless parcel", UnsupportedOperationException.class, () -> depot.gloveFor(3));
        for (int parcel : new int[] {-1, 5, 12, Integer.MIN_VALUE, Integer.MAX_VALUE}) {
            Check.refused("gloveFor(" + parcel + ")", INDEX, () -> depot.gloveFor(parcel));
        }
        depot.put(0, 0);
        Check.equal("gloveFor(0), the one used before", 2, depot.gloveFor(0));
        Check.equal("usesLeft(2)", 2, depot.usesLeft(2));
        depot.put(4, 0);
        depot.takeOut(4);
        Check.equal("gloveFor(0), another glove of grade 1", 3, depot.gloveFor(4));
        Check.equal("gloveCount()", 4, depot.gloveCount());

        ParcelDepot weak = Depots.withGloves(2, 1);
        Depots.addHazards(weak, 3, 0);
        Check.refused("no glove that protects", ELEMENT, () -> weak.gloveFor(0));
        ParcelDepot bare = Depots.addHazards(new ParcelDepot(), 0, 1);
        Check.refused("a harmless parcel without gloves", UnsupportedOperationException.class, () -> bare.gloveFor(0));
        Check.refused("no glove at all", ELEMENT, () -> bare.gloveFor(1));
        usedGloveIsChosen();
    }

    // The glove of a grade that was used before is always the least of its grade: one test tells both.
    private static void usedGloveIsChosen() {
        ParcelDepot depot = Depots.withGloves(3, 2, 2);
        Depots.addHazards(depot, 2, 2, 3);
        Check.equal("gloveFor(0), the least of two new ones", 1, depot.gloveFor(0));
        depot.put(0, 0);
        depot.buyGlove(2);
        Check.equal("gloveFor(1), the used one", 1, depot.gloveFor(1));
        depot.put(1, 0);
        Check.equal("the uses left", "3 1 3 3", usesOf(depot));
        depot.takeOut(0);
        Check.equal("the uses left with one gone", "3 3 3", usesOf(depot));
        depot.put(2, 0);
        Check.equal("the uses left after hazard 3", "2 3 3", usesOf(depot));
        Check.equal("gloveFor(0), the least grade though it is new", 1, depot.gloveFor(0));
    }

    private static String usesOf(ParcelDepot depot) {
        StringBuilder text = new StringBuilder();
        for (int glove = 0; glove < depot.gloveCount(); glove++) {
            text.append(glove == 0 ? "" : " ").append(depot.usesLeft(glove));
        }
        return text.toString();
    }

    private static void handlingIsTold() {
        Check.promise(28);
        ParcelDepot depot = Depots.withGloves(2);
        Depots.addHazards(depot, 0, 1, 2, 3);
        boolean[] due = {true, true, true, false};
        for (int parcel = 0; parcel < due.length; parcel++) {
            Check.equal("canHandle(" + parcel + ")", due[parcel], depot.canHandle(parcel));
        }
        depot.buildRoad(0, 5, 1);
        depot.put(2, 0);
        Check.equal("canHandle a parcel in a sack", true, depot.canHandle(2));
        depot.carry(0, 5);
        Check.equal("canHandle a delivered parcel", true, depot.canHandle(2));
        depot.put(1, 1);
        depot.takeOut(1);
        Check.equal("canHandle without gloves", false, depot.canHandle(1));
        Check.equal("canHandle a delivered parcel without gloves", false, depot.canHandle(2));
        Check.equal("canHandle a harmless parcel without gloves", true, depot.canHandle(0));
        for (int parcel : new int[] {-1, 4, 12, Integer.MIN_VALUE, Integer.MAX_VALUE}) {
            Check.refused("canHandle(" + parcel + ")", INDEX, () -> depot.canHandle(parcel));
        }
    }

    private static void handleableIsCounted() {
        countHandleable(0, new ParcelDepot());
        countHandleable(2, Depots.addHazards(new ParcelDepot(), 0, 1, 0, 3));
        countHandleable(3, Depots.addHazards(Depots.withGloves(1), 1, 1, 1, 1));
        countHandleable(0, Depots.addHazards(Depots.withGloves(1, 1), 2, 3));
        countHandleable(3, Depots.addHazards(Depots.withGloves(3), 1, 1, 2, 3, 3));
        countHandleable(6, Depots.addHazards(Depots.withGloves(1, 3), 3, 1, 1, 1, 3, 2));
        countHandleable(6, Depots.addHazards(Depots.withGloves(3, 2), 3, 3, 3, 3, 1, 2, 2, 2));
        countHandleable(5, Depots.addHazards(Depots.withGloves(2, 1), 3, 3, 2, 2, 2, 1, 1));
        countHandleable(10, Depots.addHazards(Depots.withGloves(1, 2, 3), 0, 3, 3, 3, 3, 2, 2, 2, 1, 1, 1));
        countHandleable(12, Depots.addHazards(Depots.withGloves(3, 3, 3, 3, 1), 3, 3, 3, 3, 3, 3, 2, 2, 2, 1, 1, 1));
        ParcelDepot depot = Depots.addHazards(Depots.withGloves(3), 3, 3, 3, 3);
        countHandleable(3, depot);
        depot.buildRoad(0, 5, 1);
        depot.put(0, 0);
        countHandleable(2, depot);
        depot.carry(0, 5);
        countHandleable(2, depot);
        depot.put(1, 1);
        countHandleable(1, depot);
        depot.put(2, 1);
        countHandleable(0, depot);
        ParcelDepot full = Depots.addHazards(Depots.withGloves(1, 1, 1, 1, 1, 1, 1, 2), 1, 2, 2, 2, 2, 2, 3);
        countHandleable(4, full);
        full.undo();
        full.undo();
        for (int use = 0; use < 3; use++) {
            full.put(1 + use, 0);
        }
        countHandleable(1, full);
    }

    private static void countHandleable(int due, ParcelDepot depot) {
        Check.promise(29);
        Check.equal("handleable()", due, depot.handleable());
        Check.promise(30);
        Check.equal("handleableByShortage()", due, depot.handleableByShortage());
    }
}
