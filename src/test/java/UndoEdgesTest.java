import java.util.List;
import java.util.function.Consumer;

/** Promises 50 to 53: a test for each of their sentences. */
final class UndoEdgesTest {
    private static final Class<IllegalStateException> STATE = IllegalStateException.class;

    private UndoEdgesTest() {
    }

    static void run() {
        undoCount();
        undo();
        undoRefused();
        undoneCallsMakeRoom();
        save();
        saveReplaces();
        restore();
        restoreOverReplacedThings();
        savedStateIsKept();
        restoreRefused();
    }

    /** The capacity of sack 0 is the number of the latest call. */
    private static ParcelDepot after(int calls) {
        ParcelDepot depot = new ParcelDepot();
        for (int call = 1; call <= calls; call++) {
            depot.setCapacity(0, call);
        }
        return depot;
    }

    private static void undoCount() {
        Check.sentence(50, "Returns how many calls can be undone.");
        ParcelDepot depot = after(3);
        Check.equal("three calls", 3, depot.undoCount());
        Check.refused("a refused call", IllegalArgumentException.class, () -> depot.setCapacity(0, 0));
        Check.equal("three calls and a refused one", 3, depot.undoCount());
        Depots.run(depot, "glove 1;glove 2;glove 3");
        Check.equal("a call of runCommands with three commands", 4, depot.undoCount());
        Depots.answer(() -> Depots.run(depot, "glove 1;glove 4"));
        Check.equal("a failed call of runCommands", 4, depot.undoCount());
        depot.undo();
        Check.equal("after undo", 3, depot.undoCount());
        Check.sentence(50, "Returns the number, 0 to 8.");
        Check.equal("no calls", 0, after(0).undoCount());
        Check.equal("seven calls", 7, after(7).undoCount());
        Check.equal("eight calls", 8, after(8).undoCount());
        Check.equal("nine calls", 8, after(9).undoCount());
        Check.equal("many calls", 8, after(50).undoCount());
        ParcelDepot undone = after(9);
        undone.undo();
        Check.equal("nine calls and undo", 7, undone.undoCount());
        undone.setCapacity(0, 11);
        Check.equal("one call more", 8, undone.undoCount());
        undone.setCapacity(0, 12);
        Check.equal("two calls more", 8, undone.undoCount());
    }

    private static void undo() {
        Check.sentence(51, "Undoes the latest recorded call.");
        List<Consumer<ParcelDepot>> calls = List.of(depot -> depot.buildRoad(0, 1, 2),
                depot -> depot.acceptParcel(20, 1, 1), depot -> depot.buyGlove(1), depot -> depot.setCapacity(0, 20),
                depot -> depot.put(0, 0), depot -> depot.takeOut(0), depot -> depot.put(0, 0),
                depot -> depot.carry(0, 1), depot -> depot.comeBack(0), depot -> Depots.run(depot, "glove 2;put 0 0"));
        String[] before = new String[calls.size()];
        ParcelDepot depot = new ParcelDepot();
        for (int call = 0; call < calls.size(); call++) {
            before[call] = Depots.seen(depot);
            calls.get(call).accept(depot);
            Check.holds("call " + call + " changing something", !before[call].equals(Depots.seen(depot)));
        }
        for (int call = calls.size() - 1; call >= 2; call--) {
            Check.equal("undo() of call " + call, call - 2, depot.undo());
            Check.equal("the state from before call " + call, before[call], Depots.seen(depot));
        }
        // The calls are made once more and undone one by one.
        for (int call = 2; call < calls.size(); call++) {
            calls.get(call).accept(depot);
            depot.undo();
            Check.equal("the state without call " + call, before[call], Depots.seen(depot));
            calls.get(call).accept(depot);
        }
    }

    private static void undoRefused() {
        Check.sentence(51, "Returns how many calls can still be undone.");
        ParcelDepot depot = after(9);
        for (int left = 7; left >= 0; left--) {
            Check.equal("undo()", left, depot.undo());
            Check.equal("undoCount()", left, depot.undoCount());
        }
        Check.equal("the state after the first of nine calls", 1, depot.capacity(0));
        Check.sentence(51, "Throws `IllegalStateException` if no call can be undone");
        Check.refused("a ninth undo()", STATE, depot::undo);
        Check.equal("the state after that", 1, depot.capacity(0));
        Check.equal("undoCount() after that", 0, depot.undoCount());
        Check.refused("a new depot", STATE, new ParcelDepot()::undo);
        ParcelDepot other = new ParcelDepot();
        other.feed('x');
        other.save();
        other.writeSack(0);
        Depots.answer(() -> other.buyGlove(0));
        Depots.answer(other::runCommands);
        Check.refused("calls that are not recorded", STATE, other::undo);
        other.buyGlove(1);
        Check.equal("one recorded call", 0, other.undo());
        Check.refused("that call undone", STATE, other::undo);
        other.buyGlove(1);
        other.restore();
        Check.refused("restored", STATE, other::undo);
    }

    private static void undoneCallsMakeRoom() {
        Check.sentence(51, "Undoes the latest recorded call.");
        for (int undone = 1; undone <= 8; undone++) {
            ParcelDepot depot = after(20);
            for (int count = 0; count < undone; count++) {
                depot.undo();
            }
            for (int call = 41; call < 41 + undone; call++) {
                depot.setCapacity(0, call);
            }
            for (int call = 40 + undone; call > 41; call--) {
                depot.undo();
                Check.equal("the capacity before a new call", call - 1, depot.capacity(0));
            }
            depot.undo();
            for (int capacity = 20 - undone; capacity > 12; capacity--) {
                Check.equal("the capacity of an older call", capacity, depot.capacity(0));
                depot.undo();
            }
            Check.equal("the oldest capacity", 12, depot.capacity(0));
            Check.refused("one undo() more", STATE, depot::undo);
        }
    }

    private static void save() {
        Check.sentence(52, "Saves all roads, parcels, gloves, sacks and sums.");
        ParcelDepot depot = RulesTest.busy();
        String saved = Depots.seen(depot);
        depot.save();
        Check.equal("the state after save", saved, Depots.seen(depot));
        changeAll(depot);
        depot.restore();
        Check.equal("all of it restored", saved, Depots.seen(depot));
        Check.sentence(52, "Returns the number of parcels.");
        Check.equal("none", 0, new ParcelDepot().save());
        Check.equal("four, some of them delivered", 4, depot.save());
        Check.equal("twelve", 12, RulesTest.full().save());
    }

    /** Changes roads, parcels, gloves, sacks and both sums of a busy depot. */
    private static void changeAll(ParcelDepot depot) {
        depot.buildRoad(3, 4, 2);
        depot.acceptParcel(1, 1, 1);
        depot.put(3, 0);
        depot.carry(0, 2);
        depot.comeBack(0);
        depot.takeOut(1);
        depot.setCapacity(1, 31);
        depot.buyGlove(3);
        Check.equal("the gloves that are gone", 1, depot.glovesUsedUp());
    }

    private static void saveReplaces() {
        Check.sentence(52, "An earlier saved state is replaced.");
        ParcelDepot depot = RulesTest.busy();
        depot.save();
        changeAll(depot);
        String later = Depots.seen(depot);
        Check.equal("the number of parcels saved later", 5, depot.save());
        depot.undo();
        depot.undo();
        Check.equal("restore()", 5, depot.restore());
        Check.equal("the state saved later", later, Depots.seen(depot));
        ParcelDepot less = RulesTest.full();
        less.save();
        for (int calls = 0; calls < 8; calls++) {
            less.undo();
        }
        String before = Depots.seen(less);
        less.save();
        less.carry(2, 5);
        less.restore();
        Check.equal("a state saved later with less in it", before, Depots.seen(less));
    }

    private static void restore() {
        Check.sentence(53, "Restores the saved state.");
        ParcelDepot empty = new ParcelDepot();
        empty.save();
        Depots.run(empty, "road 0-5 1;glove 1;parcel 9 1 5;put 0 0;carry 0 5;back 0");
        empty.setCapacity(1, 1);
        empty.restore();
        Check.equal("the state of a new depot", Depots.seen(new ParcelDepot()), Depots.seen(empty));
        Check.equal("its first parcel", 0, empty.acceptParcel(1, 0, 0));
        Check.equal("its first road", 1, empty.buildRoad(0, 5, 1));
        ParcelDepot full = RulesTest.full();
        String saved = Depots.seen(full);
        full.save();
        for (int calls = 0; calls < 8; calls++) {
            full.undo();
        }
        full.restore();
        Check.equal("the state of a full depot", saved, Depots.seen(full));
        Check.refused("a thirteenth parcel then", STATE, () -> full.acceptParcel(1, 0, 0));
        Check.sentence(53, "Returns the number of parcels.");
        Check.equal("twelve", 12, full.restore());
        Check.equal("none", 0, empty.restore());
        ParcelDepot more = Depots.addWeights(new ParcelDepot(), 1, 1);
        more.save();
        Depots.addWeights(more, 1, 1, 1);
        Check.equal("as many as were saved", 2, more.restore());
        Check.equal("as many as are told then", 2, more.parcelCount());
    }

    private static void restoreOverReplacedThings() {
        Check.sentence(53, "Restores the saved state.");
        ParcelDepot depot = new ParcelDepot();
        Depots.run(depot, "parcel 5 1 2;glove 1;road 0-1 4");
        String saved = Depots.seen(depot);
        depot.save();
        depot.undo();
        // Other things take the indices of those that are saved.
        Depots.run(depot, "parcel 9 3 1;glove 3;road 0-1 7;put 0 2;carry 2 1;back 0");
        depot.setCapacity(2, 9);
        depot.restore();
        Check.equal("the state restored", saved, Depots.seen(depot));
    }

    private static void savedStateIsKept() {
        Check.sentence(53, "The saved state is kept, and no call can be undone afterwards.");
        ParcelDepot depot = RulesTest.busy();
        String saved = Depots.seen(depot);
        depot.save();
        for (int round = 0; round < 3; round++) {
            changeAll(depot);
            Check.equal("undoCount() before restore", 8, depot.undoCount());
            depot.restore();
            Check.equal("the state restored", saved, Depots.seen(depot));
            Check.equal("undoCount() after restore", 0, depot.undoCount());
            Check.refused("undo() after restore", STATE, depot::undo);
            depot.buyGlove(2);
            Check.equal("undo() of a later call", 0, depot.undo());
            Check.equal("the state after that", saved, Depots.seen(depot));
            Check.refused("undo() once more", STATE, depot::undo);
        }
        depot.buyGlove(2);
        depot.restore();
        Check.letsIn("restore() twice", depot::restore);
        Check.equal("the state after that", saved, Depots.seen(depot));
        ParcelDepot kept = after(8);
        kept.save();
        Check.equal("undoCount() after save", 8, kept.undoCount());
        for (int calls = 0; calls < 8; calls++) {
            kept.undo();
        }
        kept.restore();
        Check.equal("the saved state after undo of all before it", 8, kept.capacity(0));
    }

    private static void restoreRefused() {
        Check.sentence(53, "Throws `IllegalStateException` if no state was saved");
        Check.refused("a new depot", STATE, new ParcelDepot()::restore);
        ParcelDepot depot = after(4);
        Check.refused("a depot where nothing was saved", STATE, depot::restore);
        Check.equal("undoCount() after that", 4, depot.undoCount());
        Check.equal("the state after that", 4, depot.capacity(0));
        depot.save();
        Check.letsIn("a depot where a state was saved", depot::restore);
    }
}
