/** Promises 50 to 53: undo, save and restore. */
final class UndoTest {
    private static final Class<IllegalStateException> STATE = IllegalStateException.class;

    private UndoTest() {
    }

    static void run() {
        callsAreCounted();
        eachCallIsUndone();
        eightCallsAreUndone();
        undoneCallsMakeRoom();
        undoLeavesTheRest();
        statesAreSaved();
        statesAreRestored();
        replacedThingsAreRestored();
        restoreLeavesTheRest();
    }

    /** A depot where each kind of call can be made next. */
    private static ParcelDepot busy() {
        ParcelDepot depot = Depots.withGloves(1, 3);
        Depots.run(depot, "road 0-1 5;road 1-2 3;parcel 7 1 1;parcel 4 3 2");
        Depots.run(depot, "parcel 2 0 1;parcel 9 2 1;put 0 0;put 2 0;carry 0 1");
        Depots.run(depot, "put 1 1;back 2");
        return depot;
    }

    private static void callsAreCounted() {
        Check.promise(50);
        ParcelDepot depot = new ParcelDepot();
        for (int call = 1; call <= 10; call++) {
            depot.setCapacity(0, 30);
            Check.equal("undoCount()", Math.min(call, 8), depot.undoCount());
        }
        depot.writeSack(0);
        depot.save();
        depot.feed('x');
        depot.mostFittingByTable(0);
        Check.equal("undoCount() after calls that are not recorded", 8, depot.undoCount());
        depot.undo();
        Check.equal("undoCount() after undo", 7, depot.undoCount());
        depot.restore();
        Check.equal("undoCount() after restore", 0, depot.undoCount());
    }

    private static void eachCallIsUndone() {
        Check.promise(51);
        isUndone("buildRoad", d -> d.buildRoad(3, 4, 2));
        isUndone("acceptParcel", d -> d.acceptParcel(1, 1, 1));
        isUndone("buyGlove", d -> d.buyGlove(2));
        isUndone("setCapacity", d -> d.setCapacity(2, 31));
        isUndone("put", d -> d.put(3, 0));
        isUndone("takeOut", d -> d.takeOut(1));
        isUndone("carry", d -> d.carry(1, 2));
        isUndone("comeBack", d -> d.comeBack(0));
        isUndone("runCommands", d -> Depots.run(d, "glove 1;put 2 2;carry 2 1;back 0"));
    }

    private interface Change {
        int on(ParcelDepot depot);
    }

    private static void isUndone(String name, Change change) {
        ParcelDepot depot = busy();
        String before = Depots.seen(depot);
        int undoable = depot.undoCount();
        change.on(depot);
        Check.holds(name + " changing something", !before.equals(Depots.seen(depot)));
        Check.equal("undoCount() after " + name, undoable + 1, depot.undoCount());
        Check.equal("undo() of " + name, undoable, depot.undo());
        Check.equal("the state after undo of " + name, before, Depots.seen(depot));
    }

    private static void eightCallsAreUndone() {
        Check.promise(51);
        ParcelDepot depot = new ParcelDepot();
        Check.refused("undo() at first", STATE, depot::undo);
        for (int capacity = 1; capacity <= 20; capacity++) {
            depot.setCapacity(1, capacity);
        }
        for (int left = 7; left >= 0; left--) {
            Check.equal("undo()", left, depot.undo());
            Check.equal("capacity(1)", 12 + left, depot.capacity(1));
        }
        Check.refused("a ninth undo()", STATE, depot::undo);
        Check.equal("capacity(1) after a ninth undo()", 12, depot.capacity(1));
    }

    private static void undoneCallsMakeRoom() {
        Check.promise(51);
        ParcelDepot depot = new ParcelDepot();
        for (int capacity = 1; capacity <= 8; capacity++) {
            depot.setCapacity(0, capacity);
        }
        depot.undo();
        depot.undo();
        depot.setCapacity(0, 41);
        depot.setCapacity(0, 42);
        depot.setCapacity(0, 43);
        Check.refused("a refused call between", IllegalArgumentException.class, () -> depot.setCapacity(0, 0));
        int[] due = {42, 41, 6, 5, 4, 3, 2, 1};
        for (int index = 0; index < 8; index++) {
            Check.equal("undo()", 7 - index, depot.undo());
            Check.equal("capacity(0)", due[index], depot.capacity(0));
        }
        Check.refused("one undo() more", STATE, depot::undo);
    }

    private static void undoLeavesTheRest() {
        Check.promise(51);
        ParcelDepot depot = new ParcelDepot();
        depot.acceptParcel(12, 0, 3);
        depot.put(0, 1);
        depot.writeSack(1);
        Depots.feed(depot, "glove 3");
        depot.undo();
        depot.undo();
        Check.equal("the output after undo", '2', depot.outputChar(6));
        Check.equal("the input buffer after undo", 8, depot.feed(';'));
        Depots.feed(depot, "glove 2");
        Check.equal("runCommands() after undo", 2, depot.runCommands());
        depot.save();
        depot.undo();
        Check.equal("gloveCount() after undo", 0, depot.gloveCount());
        depot.restore();
        Check.equal("gloveCount() of the saved state", 2, depot.gloveCount());
    }

    private static void statesAreSaved() {
        Check.promise(52);
        ParcelDepot depot = busy();
        int undoable = depot.undoCount();
        Check.equal("save()", 4, depot.save());
        Check.equal("undoCount() after save", undoable, depot.undoCount());
        String first = Depots.seen(depot);
        depot.acceptParcel(1, 1, 1);
        depot.carry(1, 2);
        Check.equal("save() again", 5, depot.save());
        String second = Depots.seen(depot);
        Check.holds("the states differing", !first.equals(second));
        depot.undo();
        depot.undo();
        depot.restore();
        Check.equal("the state saved later", second, Depots.seen(depot));
        ParcelDepot empty = new ParcelDepot();
        Check.equal("save() without parcels", 0, empty.save());
    }

    private static void statesAreRestored() {
        Check.promise(53);
        ParcelDepot depot = busy();
        Check.refused("restore() before save()", STATE, depot::restore);
        int undoable = depot.undoCount();
        Check.holds("calls to undo after a refusal", undoable > 0);
        String before = Depots.seen(depot);
        depot.save();
        depot.buildRoad(3, 4, 2);
        depot.acceptParcel(1, 1, 1);
        depot.setCapacity(2, 31);
        depot.put(3, 0);
        depot.takeOut(1);
        depot.carry(1, 2);
        depot.comeBack(0);
        depot.buyGlove(2);
        Check.equal("restore()", 4, depot.restore());
        Check.equal("the state after restore", before, Depots.seen(depot));
        Check.equal("undoCount() after restore", 0, depot.undoCount());
        Check.refused("undo() after restore", STATE, depot::undo);
        depot.acceptParcel(2, 2, 2);
        depot.carry(1, 2);
        Check.equal("restore() again", 4, depot.restore());
        Check.equal("the state after restore again", before, Depots.seen(depot));
        Check.equal("undoCount() after restore again", 0, depot.undoCount());
        depot.setCapacity(0, 44);
        depot.undo();
        Check.equal("the state after undo", before, Depots.seen(depot));
    }

    private static void replacedThingsAreRestored() {
        Check.promise(53);
        ParcelDepot depot = new ParcelDepot();
        depot.acceptParcel(5, 1, 2);
        depot.buyGlove(1);
        depot.buildRoad(0, 1, 4);
        String before = Depots.seen(depot);
        depot.save();
        depot.undo();
        depot.undo();
        depot.undo();
        depot.acceptParcel(9, 3, 4);
        depot.buyGlove(3);
        depot.put(0, 1);
        depot.buildRoad(0, 1, 7);
        depot.carry(1, 1);
        depot.restore();
        Check.equal("the state after restore", before, Depots.seen(depot));
        depot.setCapacity(1, 31);
        depot.save();
        depot.undo();
        depot.setCapacity(1, 32);
        depot.restore();
        Check.equal("capacity(1) after restore", 31, depot.capacity(1));
    }

    private static void restoreLeavesTheRest() {
        Check.promise(53);
        ParcelDepot depot = new ParcelDepot();
        depot.save();
        depot.acceptParcel(12, 0, 3);
        depot.put(0, 1);
        depot.writeSack(1);
        Depots.feed(depot, "glove 3");
        Check.equal("restore()", 0, depot.restore());
        Check.equal("the output after restore", '>', depot.outputChar(7));
        Check.equal("the text after restore", 1, depot.runCommands());
        Check.equal("undoCount() after a call", 1, depot.undoCount());
    }
}
