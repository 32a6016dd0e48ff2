/** Promises 48 and 49: the description of a sack. */
final class OutputTest {
    private static final Class<IndexOutOfBoundsException> INDEX = IndexOutOfBoundsException.class;

    private OutputTest() {
    }

    static void run() {
        sacksAreWritten();
        longestOutputIsWritten();
        charactersAreTold();
    }

    private static void sacksAreWritten() {
        Check.promise(48);
        ParcelDepot depot = Depots.withGloves(3, 3, 3);
        Check.equal("an empty sack", "s2@0", Depots.written(depot, 2));
        depot.acceptParcel(9, 0, 1);
        depot.acceptParcel(7, 2, 3);
        depot.acceptParcel(12, 0, 5);
        depot.acceptParcel(10, 3, 0);
        depot.acceptParcel(20, 1, 4);
        depot.put(2, 1);
        depot.put(1, 1);
        depot.put(4, 2);
        Check.equal("writeSack(1)", 15, depot.writeSack(1));
        Check.equal("the example", "s1@0 7hh>3 12>5", Depots.written(depot, 1));
        Check.equal("another sack", "s2@0 20h>4", Depots.written(depot, 2));
        depot.put(3, 1);
        depot.buildRoad(0, 5, 1);
        depot.carry(1, 5);
        Check.equal("after carrying", "s1@5 7hh>3 10hhh>0", Depots.written(depot, 1));
        depot.takeOut(1);
        Check.equal("after one was taken out", "s1@5 10hhh>0", Depots.written(depot, 1));
        int undoable = depot.undoCount();
        for (int sack : new int[] {-1, 3, Integer.MIN_VALUE, Integer.MAX_VALUE}) {
            Check.refused("writeSack(" + sack + ")", INDEX, () -> depot.writeSack(sack));
        }
        Check.equal("the output after refusals", '5', depot.outputChar(3));
        Check.equal("undoCount() after writeSack", undoable, depot.undoCount());
        depot.put(0, 0);
        Check.equal("one digit", "s0@0 9>1", Depots.written(depot, 0));
    }

    private static void longestOutputIsWritten() {
        Check.promise(48);
        ParcelDepot depot = Depots.withGloves(3, 3, 3, 3, 3);
        depot.setCapacity(0, 60);
        StringBuilder due = new StringBuilder("s0@0");
        for (int parcel = 0; parcel < 12; parcel++) {
            int weight = parcel < 5 ? 10 : 1;
            depot.acceptParcel(weight, 3, 5);
            depot.put(parcel, 0);
            due.append(' ').append(weight).append("hhh>5");
        }
        Check.equal("the longest output", due.toString(), Depots.written(depot, 0));
    }

    private static void charactersAreTold() {
        Check.promise(49);
        ParcelDepot depot = new ParcelDepot();
        for (int index : new int[] {0, -1, 1, Integer.MIN_VALUE, Integer.MAX_VALUE}) {
            Check.refused("outputChar(" + index + ") at first", INDEX, () -> depot.outputChar(index));
        }
        depot.acceptParcel(12, 0, 3);
        depot.put(0, 1);
        depot.writeSack(1);
        String due = "s1@0 12>3";
        for (int index = 0; index < due.length(); index++) {
            Check.equal("outputChar(" + index + ")", due.charAt(index), depot.outputChar(index));
        }
        depot.takeOut(0);
        Check.equal("outputChar(8) of what was written", '3', depot.outputChar(8));
        for (int index : new int[] {9, 10, 100, -1, Integer.MIN_VALUE, Integer.MAX_VALUE}) {
            Check.refused("outputChar(" + index + ")", INDEX, () -> depot.outputChar(index));
        }
        depot.writeSack(2);
        Check.equal("outputChar(1) of a later output", '2', depot.outputChar(1));
        Check.refused("outputChar(4) of a shorter output", INDEX, () -> depot.outputChar(4));
    }
}
