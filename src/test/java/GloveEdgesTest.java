import java.util.NoSuchElementException;

/** Promises 4, 24 to 30 and 39: a test for each of their sentences. */
final class GloveEdgesTest {
    private static final Class<IndexOutOfBoundsException> INDEX = IndexOutOfBoundsException.class;
    private static final Class<IllegalArgumentException> ARGUMENT = IllegalArgumentException.class;
    private static final Class<IllegalStateException> STATE = IllegalStateException.class;
    private static final Class<NoSuchElementException> ELEMENT = NoSuchElementException.class;
    private static final Class<UnsupportedOperationException> UNSUPPORTED = UnsupportedOperationException.class;

    private GloveEdgesTest() {
    }

    static void run() {
        buyGlove();
        gloveCount();
        grade();
        usesLeft();
        gloveFor();
        gloveForRefused();
        canHandle();
        handleable();
        handleableOrder();
        handleableByShortage();
        glovesUsedUp();
    }

    private static ParcelDepot withEight() {
        return Depots.withGloves(3, 2, 2, 2, 2, 2, 2, 1);
    }

    /** A depot whose parcel has been handled so often, beginning with put. */
    private static ParcelDepot handled(int times, int hazard, int... grades) {
        ParcelDepot depot = Depots.addHazards(Depots.withGloves(grades), hazard);
        for (int time = 0; time < times; time++) {
            if (time % 2 == 0) {
                depot.put(0, 0);
            } else {
                depot.takeOut(0);
            }
        }
        return depot;
    }

    private static void buyGlove() {
        Check.sentence(4, "Buys a glove that was never used.");
        ParcelDepot worn = handled(2, 1, 1, 1);
        worn.buyGlove(1);
        Check.equal("the uses left of a glove beside a worn one", "1 3 3",
                worn.usesLeft(0) + " " + worn.usesLeft(1) + " " + worn.usesLeft(2));
        ParcelDepot gone = handled(3, 1, 1);
        gone.buyGlove(2);
        Check.equal("the glove where one was that is gone", "2 3", gone.grade(0) + " " + gone.usesLeft(0));
        Check.sentence(4, "`grade`: the grade, 1 to 3");
        Check.range("grade", 1, 3, ARGUMENT, grade -> new ParcelDepot().buyGlove(grade));
        Check.equal("the least grade", 1, Depots.withGloves(1).grade(0));
        Check.equal("the greatest grade", 3, Depots.withGloves(3).grade(0));
        Check.sentence(4, "Returns the index of the glove.");
        ParcelDepot depot = new ParcelDepot();
        for (int glove = 0; glove < 8; glove++) {
            Check.equal("the index", glove, depot.buyGlove(3 - glove % 3));
        }
        depot.undo();
        Check.equal("the index after undo", 7, depot.buyGlove(1));
        Check.equal("the index when one is gone", 0, handled(3, 1, 1).buyGlove(1));
        Check.sentence(4, "Throws `IllegalArgumentException` if the grade is out of range");
        Check.beyond("grade", 1, 3, ARGUMENT, grade -> new ParcelDepot().buyGlove(grade));
        Check.beyond("grade before the full store", 1, 3, ARGUMENT, grade -> withEight().buyGlove(grade));
        Check.sentence(4, "Throws `IllegalStateException` if there are 8 gloves");
        Check.equal("the eighth glove", 7, Depots.withGloves(1, 1, 1, 1, 1, 1, 1).buyGlove(1));
        Check.refused("a ninth glove", STATE, () -> withEight().buyGlove(1));
        ParcelDepot eight = Depots.addHazards(withEight(), 1);
        Depots.run(eight, "put 0 0;out 0");
        Check.refused("a ninth glove beside one with a use left", STATE, () -> eight.buyGlove(1));
        eight.put(0, 0);
        Check.letsIn("an eighth glove when one is gone", () -> eight.buyGlove(1));
    }

    private static void gloveCount() {
        Check.sentence(24, "Returns the number of gloves.");
        Check.equal("two, one of them worn", 2, handled(2, 1, 1, 2).gloveCount());
        Check.equal("one when one is gone", 1, handled(3, 1, 1, 2).gloveCount());
        Check.sentence(24, "Returns the number, 0 to 8.");
        Check.equal("none", 0, new ParcelDepot().gloveCount());
        Check.equal("none when the only one is gone", 0, handled(3, 1, 1).gloveCount());
        ParcelDepot depot = withEight();
        Check.equal("eight", 8, depot.gloveCount());
        Check.refused("a ninth glove", STATE, () -> depot.buyGlove(1));
        Check.equal("eight after that", 8, depot.gloveCount());
        depot.undo();
        Check.equal("seven after undo", 7, depot.gloveCount());
    }

    private static void grade() {
        ParcelDepot depot = withEight();
        Check.sentence(25, "Returns the grade of a glove.");
        Check.equal("the second grade", 2, depot.grade(1));
        Check.equal("the grade that has moved up", 3, handled(3, 2, 1, 2, 3).grade(1));
        Check.equal("the grade that has not", 1, handled(3, 2, 1, 2, 3).grade(0));
        Check.sentence(25, "Returns the grade.");
        Check.equal("the greatest grade", 3, depot.grade(0));
        Check.equal("the least grade", 1, depot.grade(7));
        Check.sentence(25, "`glove`: index of a glove");
        Check.range("glove", 0, 7, INDEX, depot::grade);
        Check.sentence(25, "Throws `IndexOutOfBoundsException` if there is no such glove");
        Check.beyond("glove of eight", 0, 7, INDEX, depot::grade);
        Check.beyond("glove of none", 0, -1, INDEX, new ParcelDepot()::grade);
        Check.beyond("glove when one of three is gone", 0, 1, INDEX, handled(3, 1, 1, 2, 3)::grade);
        depot.undo();
        Check.beyond("glove after undo", 0, 6, INDEX, depot::grade);
    }

    private static void usesLeft() {
        Check.sentence(26, "Returns how often a glove can still be used.");
        ParcelDepot depot = handled(1, 2, 1, 2, 2);
        Check.equal("another glove", 3, depot.usesLeft(0));
        Check.equal("the glove that was used", 2, depot.usesLeft(1));
        depot.undo();
        Check.equal("that glove after undo", 3, depot.usesLeft(1));
        Check.sentence(26, "Returns the number of uses, 1 to 3.");
        Check.equal("never used", 3, handled(0, 1, 1).usesLeft(0));
        Check.equal("used once", 2, handled(1, 1, 1).usesLeft(0));
        Check.equal("used twice", 1, handled(2, 1, 1).usesLeft(0));
        Check.refused("used three times", INDEX, () -> handled(3, 1, 1).usesLeft(0));
        Check.sentence(26, "`glove`: index of a glove");
        Check.range("glove", 0, 7, INDEX, withEight()::usesLeft);
        Check.sentence(26, "Throws `IndexOutOfBoundsException` if there is no such glove");
        Check.beyond("glove of eight", 0, 7, INDEX, withEight()::usesLeft);
        Check.beyond("glove of none", 0, -1, INDEX, new ParcelDepot()::usesLeft);
        Check.beyond("glove when one of three is gone", 0, 1, INDEX, handled(3, 1, 1, 2, 3)::usesLeft);
    }

    private static void gloveFor() {
        ParcelDepot depot = Depots.addHazards(Depots.withGloves(3, 2, 2, 1), 1, 2, 3);
        depot.buildRoad(0, 5, 1);
        Check.sentence(27, "Returns the glove that would be used for handling a parcel, wherever the parcel is.");
        Check.equal("a waiting parcel", 1, depot.gloveFor(1));
        depot.put(1, 0);
        Check.equal("a parcel in a sack", 1, depot.gloveFor(1));
        depot.carry(0, 5);
        Check.equal("a delivered parcel", 1, depot.gloveFor(1));
        Check.equal("the uses left after asking", 2, depot.usesLeft(1));
        depot.comeBack(1);
        Check.equal("a parcel that came back with a greater hazard", 0, depot.gloveFor(1));
        Check.sentence(27, "Returns the index of the glove.");
        Check.equal("the first glove", 0, depot.gloveFor(2));
        Check.equal("the last glove", 3, depot.gloveFor(0));
        ParcelDepot twelve = Depots.addHazards(withEight(), 3, 2, 2, 2, 2, 2, 2, 2, 2, 2, 2, 1);
        Check.equal("the first of eight", 0, twelve.gloveFor(0));
        Check.equal("the last of eight", 7, twelve.gloveFor(11));
        Check.sentence(27, "`parcel`: index of a parcel");
        Check.range("parcel", 0, 11, INDEX, twelve::gloveFor);
    }

    private static void gloveForRefused() {
        Check.sentence(27, "Throws `IndexOutOfBoundsException` if there is no such parcel");
        Check.beyond("parcel of three", 0, 2, INDEX, Depots.addHazards(withEight(), 1, 1, 1)::gloveFor);
        Check.beyond("parcel of none", 0, -1, INDEX, withEight()::gloveFor);
        Check.sentence(27, "Throws `UnsupportedOperationException` if its hazard is 0");
        Check.refused("hazard 0 with gloves", UNSUPPORTED, () -> Depots.addHazards(withEight(), 0).gloveFor(0));
        Check.refused("hazard 0 without", UNSUPPORTED, () -> Depots.addHazards(new ParcelDepot(), 0).gloveFor(0));
        Check.equal("hazard 1", 7, Depots.addHazards(withEight(), 1).gloveFor(0));
        Check.sentence(27, "Throws `NoSuchElementException` if no glove protects against its hazard");
        Check.refused("no gloves", ELEMENT, () -> Depots.addHazards(new ParcelDepot(), 1).gloveFor(0));
        Check.refused("grade 1 for hazard 2", ELEMENT, () -> handled(0, 2, 1).gloveFor(0));
        Check.refused("grade 2 for hazard 3", ELEMENT, () -> handled(0, 3, 1, 2).gloveFor(0));
        Check.equal("grade 3 for hazard 3", 2, handled(0, 3, 1, 2, 3).gloveFor(0));
        Check.equal("a glove with one use left", 1, handled(2, 3, 1, 3).gloveFor(0));
        Check.refused("that glove gone", ELEMENT, () -> handled(3, 3, 1, 3).gloveFor(0));
        ParcelDepot undone = handled(3, 3, 1, 3);
        undone.undo();
        Check.equal("that glove after undo", 1, undone.gloveFor(0));
    }

    private static void canHandle() {
        Check.sentence(28, "Returns whether a parcel could be handled now, wherever it is.");
        ParcelDepot depot = Depots.addHazards(Depots.withGloves(2), 2);
        depot.buildRoad(0, 5, 1);
        Check.equal("a waiting parcel", true, depot.canHandle(0));
        depot.put(0, 0);
        Check.equal("a parcel in a sack", true, depot.canHandle(0));
        depot.carry(0, 5);
        Check.equal("a delivered parcel", true, depot.canHandle(0));
        Check.equal("the uses left after asking", 2, depot.usesLeft(0));
        depot.comeBack(0);
        Check.equal("a parcel that came back with a greater hazard", false, depot.canHandle(0));
        Check.sentence(28, "Returns true if it could be handled.");
        Check.equal("hazard 0 without gloves", true, handled(0, 0).canHandle(0));
        Check.equal("hazard 1 without gloves", false, handled(0, 1).canHandle(0));
        Check.equal("hazard 3 with grade 3", true, handled(0, 3, 3).canHandle(0));
        Check.equal("hazard 3 with grade 2", false, handled(0, 3, 2).canHandle(0));
        Check.equal("hazard 1 with a use left", true, handled(2, 1, 1).canHandle(0));
        Check.equal("hazard 1 with none", false, handled(3, 1, 1).canHandle(0));
        ParcelDepot twelve = Depots.addHazards(new ParcelDepot(), 0, 1, 1, 1, 1, 1, 1, 1, 1, 1, 1, 0);
        Check.equal("the first of twelve", true, twelve.canHandle(0));
        Check.equal("the last of twelve", true, twelve.canHandle(11));
        Check.sentence(28, "`parcel`: index of a parcel");
        Check.range("parcel", 0, 11, INDEX, twelve::canHandle);
        Check.sentence(28, "Throws `IndexOutOfBoundsException` if there is no such parcel");
        Check.beyond("parcel of twelve", 0, 11, INDEX, twelve::canHandle);
        Check.beyond("parcel of one", 0, 0, INDEX, depot::canHandle);
        Check.beyond("parcel of none", 0, -1, INDEX, new ParcelDepot()::canHandle);
    }

    private static void handleable() {
        Check.sentence(29, "Returns the greatest number of waiting parcels that could be handled once each");
        Check.equal("as many as uses", 3, Depots.addHazards(Depots.withGloves(1), 1, 1, 1).handleable());
        Check.equal("one more than uses", 3, Depots.addHazards(Depots.withGloves(1), 1, 1, 1, 1).handleable());
        Check.equal("one less than uses", 2, Depots.addHazards(Depots.withGloves(1), 1, 1).handleable());
        Check.equal("a grade too low", 0, Depots.addHazards(Depots.withGloves(2, 2), 3, 3).handleable());
        ParcelDepot depot = Depots.addHazards(Depots.withGloves(3), 1, 1, 1, 1);
        depot.buildRoad(0, 5, 1);
        depot.put(0, 0);
        Check.equal("two uses left for three that wait", 2, depot.handleable());
        depot.carry(0, 5);
        depot.put(1, 0);
        Check.equal("one use left for two that wait", 1, depot.handleable());
        depot.put(2, 0);
        Check.equal("no use left", 0, depot.handleable());
        depot.comeBack(0);
        depot.buyGlove(1);
        Check.equal("one that came back with hazard 2", 1, depot.handleable());
        Check.sentence(29, "Returns the number of parcels.");
        Check.equal("no parcels", 0, withEight().handleable());
        Check.equal("twelve harmless ones", 12, harmless(12).handleable());
        Check.equal("twelve of the greatest hazard", 12,
                Depots.addHazards(Depots.withGloves(3, 3, 3, 3), 3, 3, 3, 3, 3, 3, 3, 3, 3, 3, 3, 3).handleable());
        Check.equal("twelve of the greatest hazard with nine uses", 9,
                Depots.addHazards(Depots.withGloves(3, 3, 3), 3, 3, 3, 3, 3, 3, 3, 3, 3, 3, 3, 3).handleable());
    }

    private static ParcelDepot harmless(int count) {
        ParcelDepot depot = new ParcelDepot();
        for (int parcel = 0; parcel < count; parcel++) {
            depot.acceptParcel(1, 0, 5);
        }
        return depot;
    }

    private static void handleableOrder() {
        Check.sentence(29, "The result is found by handling waiting parcels of lower hazards first");
        // Each depot leaves nothing over in the best order, and would in another.
        Check.equal("the least grade for the least hazard", 6,
                Depots.addHazards(Depots.withGloves(3, 1), 3, 3, 3, 1, 1, 1).handleable());
        Check.equal("the least grade for the middle hazard", 6,
                Depots.addHazards(Depots.withGloves(3, 2), 3, 2, 3, 2, 3, 2).handleable());
        Check.equal("three grades for three hazards", 9,
                Depots.addHazards(Depots.withGloves(2, 3, 1), 1, 3, 2, 2, 3, 1, 2, 3, 1).handleable());
        Check.equal("what lower hazards leave of a greater grade", 6,
                Depots.addHazards(Depots.withGloves(3, 1), 1, 1, 1, 1, 3, 2, 3).handleable());
        Check.equal("lower hazards taking all of it", 6,
                Depots.addHazards(Depots.withGloves(3, 3), 1, 1, 1, 2, 2, 2, 3, 3).handleable());
        Check.equal("the gloves after asking", 3, Depots.withGloves(3).usesLeft(0));
    }

    private static void handleableByShortage() {
        Check.sentence(30, "Returns the same number as handleable, computed from the greatest shortage of uses");
        sameNumber("no shortage, uses left over", 2, Depots.addHazards(Depots.withGloves(1, 1), 1, 1));
        sameNumber("no shortage, none left over", 3, Depots.addHazards(Depots.withGloves(3), 1, 2, 3));
        sameNumber("the greatest shortage for hazard 1", 3, Depots.addHazards(Depots.withGloves(3), 1, 1, 1, 1, 2));
        sameNumber("the greatest shortage for hazard 2", 4, Depots.addHazards(Depots.withGloves(1, 2), 1, 2, 2, 2, 3));
        sameNumber("the greatest shortage for hazard 3", 4,
                Depots.addHazards(Depots.withGloves(2, 1), 3, 3, 1, 2, 2, 1));
        sameNumber("harmless parcels beside a shortage", 2, Depots.addHazards(new ParcelDepot(), 0, 1, 2, 3, 0));
        ParcelDepot worn = handled(2, 3, 3);
        Depots.addHazards(worn, 3);
        sameNumber("one use left for two", 1, worn);
        worn.put(0, 0);
        sameNumber("no use left for one", 0, worn);
        worn.undo();
        sameNumber("one use left after undo", 1, worn);
        Check.sentence(30, "Returns the number of parcels.");
        Check.equal("no parcels", 0, withEight().handleableByShortage());
        Check.equal("twelve harmless ones", 12, harmless(12).handleableByShortage());
        Check.equal("twelve of the greatest hazard", 12, Depots.addHazards(Depots.withGloves(3, 3, 3, 3),
                3, 3, 3, 3, 3, 3, 3, 3, 3, 3, 3, 3).handleableByShortage());
        Check.equal("twelve of the greatest hazard without gloves", 0,
                Depots.addHazards(new ParcelDepot(), 3, 3, 3, 3, 3, 3, 3, 3, 3, 3, 3, 3).handleableByShortage());
    }

    private static void sameNumber(String what, int due, ParcelDepot depot) {
        Check.equal(what + " by shortage", due, depot.handleableByShortage());
        Check.equal(what, due, depot.handleable());
    }

    private static void glovesUsedUp() {
        Check.sentence(39, "Returns how many gloves are gone so far.");
        Check.equal("used twice", 0, handled(2, 1, 1).glovesUsedUp());
        Check.equal("used three times", 1, handled(3, 1, 1).glovesUsedUp());
        Check.equal("one gone, the next used twice", 1, handled(5, 1, 1, 2).glovesUsedUp());
        Check.equal("two gone", 2, handled(6, 1, 1, 2).glovesUsedUp());
        Check.sentence(39, "Returns the number of gloves.");
        Check.equal("none of none", 0, new ParcelDepot().glovesUsedUp());
        Check.equal("none of eight", 0, withEight().glovesUsedUp());
        ParcelDepot depot = handled(24, 1, 1, 1, 1, 1, 2, 2, 3, 3);
        Check.equal("eight of eight", 8, depot.glovesUsedUp());
        depot.undo();
        Check.equal("seven after undo", 7, depot.glovesUsedUp());
        depot.takeOut(0);
        depot.buyGlove(1);
        Depots.run(depot, "put 0 0;out 0;put 0 0");
        Check.equal("more gloves than there can be at once", 9, depot.glovesUsedUp());
    }
}
