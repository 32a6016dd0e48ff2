import java.util.ArrayList;
import java.util.LinkedHashMap;
import java.util.List;
import java.util.Map;
import java.util.NoSuchElementException;
import java.util.function.Consumer;

/** The document's part Terms, from the commands to its end: a test for each of its sentences. */
final class RulesTest {
    private static final Class<IndexOutOfBoundsException> INDEX = IndexOutOfBoundsException.class;
    private static final Class<IllegalArgumentException> ARGUMENT = IllegalArgumentException.class;
    private static final Class<IllegalStateException> STATE = IllegalStateException.class;
    private static final Class<NoSuchElementException> ELEMENT = NoSuchElementException.class;
    private static final Class<UnsupportedOperationException> UNSUPPORTED = UnsupportedOperationException.class;
    private static final String SIXTY = "glove 1;glove 1;glove 1;glove 1;parcel 1 0 0;parcel 1 0 0;gl";

    private RulesTest() {
    }

    static void run() {
        sixtyCharacters();
        oneOrMoreCommands();
        formOfRoad();
        formOfParcel();
        formOfGlove();
        formOfPut();
        formOfOut();
        formOfCarry();
        formOfBack();
        digits();
        malformedTexts();
        errorPositions();
        keywords();
        recordedCalls();
        callsThatAreNotRecorded();
        eightCallsAreUndone();
        whatUndoLeaves();
        whatRestoreLeaves();
        refusedCallsLeaveAll();
        refusedQueriesLeaveAll();
        firstExceptionOfChanges();
        firstExceptionOfTexts();
        puttingWhereverTheSackIs();
        puttingAtTheDestination();
        lastCalls();
    }

    private static void sixtyCharacters() {
        Check.sentence(0, "The input buffer holds at most 60 characters.");
        ParcelDepot depot = Depots.feed(new ParcelDepot(), SIXTY.substring(0, 59));
        Check.equal("the sixtieth character", 60, depot.feed(SIXTY.charAt(59)));
        Check.refused("a character more", STATE, () -> depot.feed('o'));
        Check.refused("the text of sixty", ARGUMENT, depot::runCommands);
        Check.equal("its end, too early", 60, depot.errorPosition());
    }

    private static void oneOrMoreCommands() {
        Check.sentence(0, "A text consists of one or more commands, separated by semicolons.");
        malformed("", 0);
        malformed(";", 0);
        malformed("glove 1;", 8);
        malformed(";glove 1", 0);
        malformed("glove 1;;glove 1", 8);
        malformed("glove 1,glove 1", 7);
        malformed("glove 1 glove 1", 7);
        malformed("glove 1glove 1", 7);
        malformed("glove 1; glove 1", 8);
        malformed("glove 1 ;glove 1", 7);
        ParcelDepot depot = new ParcelDepot();
        Check.equal("one command", 1, Depots.run(depot, "glove 1"));
        Check.equal("two commands", 2, Depots.run(depot, "glove 2;glove 3"));
        Check.equal("the gloves of both texts", "1 2 3", depot.grade(0) + " " + depot.grade(1) + " " + depot.grade(2));
        // No command is shorter than five characters: sixty hold ten of them, and one semicolon more.
        ParcelDepot loaded = loaded();
        Check.equal("ten commands", 10,
                Depots.run(loaded, "out 0;out 1;out 2;out 3;out 4;out 5;out 6;out 7;out 8;out 9"));
        Check.equal("the parcels taken out", 10, loaded.waitingCount());
        malformed("out 0;out 1;out 2;out 3;out 4;out 5;out 6;out 7;out 8;out 9;", 60);
    }

    /** A depot with ten harmless parcels in sack 0. */
    private static ParcelDepot loaded() {
        ParcelDepot depot = Depots.addWeights(new ParcelDepot(), 1, 1, 1, 1, 1, 1, 1, 1, 1, 1);
        for (int parcel = 0; parcel < 10; parcel++) {
            depot.put(parcel, 0);
        }
        return depot;
    }

    private static void malformed(String text, int position) {
        ParcelDepot depot = new ParcelDepot();
        Check.refused("'" + text + "'", ARGUMENT, () -> Depots.run(depot, text));
        Check.equal("the error position of '" + text + "'", "" + position, Depots.answer(depot::errorPosition));
    }

    /** The text ends before each of its characters, or has another one there, or has another one before it. */
    private static void formIsKept(String text) {
        for (int index = 0; index < text.length(); index++) {
            String before = text.substring(0, index);
            malformed(before, index);
            malformed(before + "#" + text.substring(index + 1), index);
            malformed(before + "#" + text.substring(index), index);
        }
        malformed(text + " ", text.length());
        malformed(text + ";", text.length() + 1);
        malformed(" " + text, 0);
    }

    private static void formOfRoad() {
        Check.sentence(0, "\"road\", a blank, a place, a hyphen");
        ParcelDepot depot = new ParcelDepot();
        Check.equal("road 0-5 20", 1, Depots.run(depot, "road 0-5 20"));
        Check.equal("road 5-4 1", 1, Depots.run(depot, "road 5-4 1"));
        Check.equal("the lengths", "20 1", depot.roadLength(0, 5) + " " + depot.roadLength(4, 5));
        Check.equal("the roads", 2, depot.roadCount());
        formIsKept("road 0-1 1");
        failed("road 0-6 1");
        failed("road 6-0 1");
        failed("road 2-2 1");
        failed("road 0-1 21");
        failed("road 0-1 0");
        failed("road 0-1 1;road 1-0 1");
    }

    private static void failed(String text) {
        Check.refused("'" + text + "'", UNSUPPORTED, () -> Depots.run(new ParcelDepot(), text));
    }

    private static void formOfParcel() {
        Check.sentence(0, "\"parcel\", a blank, a weight");
        ParcelDepot depot = new ParcelDepot();
        Check.equal("parcel 20 0 5", 1, Depots.run(depot, "parcel 20 0 5"));
        Check.equal("parcel 1 3 0", 1, Depots.run(depot, "parcel 1 3 0"));
        Check.equal("the parcels", "20 0 5 1 3 0", depot.weight(0) + " " + depot.hazard(0) + " " + depot.destination(0)
                + " " + depot.weight(1) + " " + depot.hazard(1) + " " + depot.destination(1));
        formIsKept("parcel 12 3 4");
        failed("parcel 21 0 0");
        failed("parcel 0 0 0");
        failed("parcel 1 4 0");
        failed("parcel 1 0 6");
    }

    private static void formOfGlove() {
        Check.sentence(0, "\"glove\", a blank and a grade buys a glove.");
        ParcelDepot depot = new ParcelDepot();
        Check.equal("glove 3", 1, Depots.run(depot, "glove 3"));
        Check.equal("glove 1", 1, Depots.run(depot, "glove 1"));
        Check.equal("the grades", "3 1", depot.grade(0) + " " + depot.grade(1));
        formIsKept("glove 2");
        failed("glove 0");
        failed("glove 4");
    }

    private static void formOfPut() {
        Check.sentence(0, "\"put\", a blank, a parcel, a blank and a sack");
        ParcelDepot depot = Depots.addWeights(new ParcelDepot(), 1, 1, 1, 1, 1, 1, 1, 1, 1, 1, 1, 1);
        Check.equal("put 0 2", 1, Depots.run(depot, "put 0 2"));
        Check.equal("put 11 0", 1, Depots.run(depot, "put 11 0"));
        Check.equal("the sacks", "2 0", depot.sackOf(0) + " " + depot.sackOf(11));
        formIsKept("put 11 0");
        failed("put 0 0");
        failed("parcel 1 0 0;put 1 0");
        failed("parcel 1 0 0;put 0 3");
    }

    private static void formOfOut() {
        Check.sentence(0, "\"out\", a blank and a parcel takes a parcel out of its sack.");
        ParcelDepot depot = Depots.addWeights(new ParcelDepot(), 1, 1, 1, 1, 1, 1, 1, 1, 1, 1, 1, 1);
        depot.put(0, 2);
        depot.put(11, 1);
        Check.equal("out 0", 1, Depots.run(depot, "out 0"));
        Check.equal("out 11", 1, Depots.run(depot, "out 11"));
        Check.equal("the parcels in sacks", 12, depot.waitingCount());
        formIsKept("out 1");
        failed("out 0");
        failed("parcel 1 0 0;out 0");
    }

    private static void formOfCarry() {
        Check.sentence(0, "\"carry\", a blank, a sack, a blank and a place carries a sack.");
        ParcelDepot depot = new ParcelDepot();
        depot.buildRoad(0, 5, 1);
        Check.equal("carry 2 5", 1, Depots.run(depot, "carry 2 5"));
        Check.equal("the places", "0 0 5", depot.place(0) + " " + depot.place(1) + " " + depot.place(2));
        Check.equal("carry 2 0", 1, Depots.run(depot, "carry 2 0"));
        Check.equal("the place", 0, depot.place(2));
        formIsKept("carry 2 5");
        failed("carry 0 0");
        failed("carry 0 1");
        failed("carry 0 6");
        failed("carry 3 1");
    }

    private static void formOfBack() {
        Check.sentence(0, "\"back\", a blank and a parcel lets a parcel come back.");
        ParcelDepot depot = Depots.addWeights(new ParcelDepot(), 1, 1, 1, 1, 1, 1, 1, 1, 1, 1, 1, 1);
        Depots.run(depot, "road 0-5 1;put 0 0;put 11 0;carry 0 5");
        Check.equal("back 0", 1, Depots.run(depot, "back 0"));
        Check.equal("back 11", 1, Depots.run(depot, "back 11"));
        Check.equal("the returns and hazards", "1 1 1 1",
                depot.returns(0) + " " + depot.returns(11) + " " + depot.hazard(0) + " " + depot.hazard(11));
        formIsKept("back 1");
        failed("back 0");
        failed("parcel 1 0 0;back 0");
    }

    private static void digits() {
        Check.sentence(0, "Lengths, weights and parcels have one or two digits; all other numbers are single digits.");
        ParcelDepot depot = new ParcelDepot();
        Check.equal("one digit", 6, Depots.run(depot, "road 0-1 9;parcel 9 0 1;put 0 1;out 0;put 0 0;carry 0 1"));
        Check.equal("one digit of a parcel that comes back", 1, Depots.run(depot, "back 0"));
        Check.equal("two digits", 5, Depots.run(depot, "road 0-2 09;parcel 09 0 2;put 01 1;out 01;put 01 0"));
        Check.equal("two digits of a parcel that comes back", 2, Depots.run(depot, "carry 0 2;back 01"));
        Check.equal("the length and the weight", "9 9", depot.roadLength(0, 2) + " " + depot.weight(1));
        malformed("road 0-1 123", 11);
        malformed("parcel 123 0 1", 9);
        malformed("put 123 0", 6);
        malformed("out 123", 6);
        malformed("back 123", 7);
        malformed("road 00-1 1", 6);
        malformed("road 0-01 1", 8);
        malformed("parcel 1 00 1", 10);
        malformed("parcel 1 0 01", 12);
        malformed("glove 01", 7);
        malformed("put 1 01", 7);
        malformed("carry 01 1", 7);
        malformed("carry 1 01", 9);
        malformed("put  1 0", 4);
        malformed("out -1", 4);
        malformed("out +1", 4);
        // The signs before '0' and behind '9', and a digit of another script.
        malformed("out /", 4);
        malformed("out :", 4);
        malformed("out 1/", 5);
        malformed("out 1:", 5);
        malformed("out \u0661", 4);
        failed("road 0-1 00");
        failed("parcel 00 0 0");
        failed("out 99");
    }

    private static void malformedTexts() {
        Check.sentence(0, "A text is malformed if it does not have this form.");
        malformed("glove", 5);
        malformed("give 1", 1);
        malformed("glove 1\n", 7);
        malformed("glove\t1", 5);
        malformed("glove 1\0", 7);
        malformed("glove\u0120" + "1", 5);
        malformed("parcel 1 0", 10);
        malformed("road 0 1 1", 6);
        // Numbers out of range have the form; their commands fail.
        failed("road 9-9 99");
        failed("parcel 99 9 9");
        failed("glove 9");
        failed("put 99 9");
        failed("carry 9 9");
        failed("back 99");
    }

    private static void errorPositions() {
        Check.sentence(0, "Its error position is the index of the first character that cannot continue");
        malformed("", 0);
        malformed("x", 0);
        malformed("pxxxxx", 1);
        malformed("paxxxx", 2);
        malformed("puxxxx", 2);
        malformed("p", 1);
        malformed("pa", 2);
        malformed("pu", 2);
        malformed("glove 1;p", 9);
        malformed("glove 1;pa", 10);
        malformed("glove 1;puxxxx", 10);
        malformed("glove 1;x", 8);
        malformed("glove 9;glove 8;glove x", 22);
        malformed("glove 1x;glove y", 7);
        malformed("put 1", 5);
        malformed("put 12", 6);
        malformed("put 12 ", 7);
        malformed("out 0;out 0;out 0;out 0;out 0;out 0;out 0;out 0;out 0;out 0x", 59);
        malformed("out 0;out 0;out 0;out 0;out 0;out 0;out 0;out 0;out 00;out x", 59);
        malformed("out 0;out 0;out 0;out 0;out 0;out 0;out 0;out 0;out 0;carry ", 60);
    }

    private static void keywords() {
        Check.sentence(0, "Keywords are compared letter by letter.");
        for (String text : new String[] {"road 0-1 1", "parcel 1 0 0", "glove 1", "put 0 0", "out 0", "carry 0 1",
            "back 0"}) {
            for (int index = 0; index < text.indexOf(' '); index++) {
                String rest = text.substring(index + 1);
                malformed(text.substring(0, index) + Character.toUpperCase(text.charAt(index)) + rest, index);
                malformed(text.substring(0, index) + 'x' + rest, index);
                malformed(text.substring(0, index) + (char) (text.charAt(index) + 256) + rest, index);
            }
            malformed(text.replaceFirst(" ", "s "), text.indexOf(' '));
        }
    }

    /** A depot with room for each kind of change, and something beside the state. */
    static ParcelDepot busy() {
        ParcelDepot depot = Depots.withGloves(1, 3, 1);
        Depots.run(depot, "road 0-1 5;road 1-2 3;parcel 7 1 1;parcel 4 3 2");
        depot.save();
        Depots.run(depot, "parcel 2 0 1;parcel 9 2 1;put 0 0;put 2 0;carry 0 1");
        Depots.answer(() -> Depots.run(depot, "glove 1;glove 4"));
        Depots.answer(() -> Depots.run(depot, "glove?"));
        Depots.run(depot, "put 1 1;back 2");
        depot.writeSack(1);
        return Depots.feed(depot, "glove 2;glov");
    }

    /** Each recorded method, once with a change of the state and once, where it can be, without. */
    private static Map<String, Consumer<ParcelDepot>> changes() {
        Map<String, Consumer<ParcelDepot>> changes = new LinkedHashMap<>();
        changes.put("buildRoad", depot -> depot.buildRoad(3, 4, 2));
        changes.put("acceptParcel", depot -> depot.acceptParcel(1, 1, 1));
        changes.put("buyGlove", depot -> depot.buyGlove(2));
        changes.put("setCapacity", depot -> depot.setCapacity(2, 31));
        changes.put("setCapacity to the same", depot -> depot.setCapacity(2, 30));
        changes.put("put", depot -> depot.put(3, 0));
        changes.put("takeOut", depot -> depot.takeOut(1));
        changes.put("carry", depot -> depot.carry(1, 2));
        changes.put("carry of an empty sack", depot -> depot.carry(2, 1));
        changes.put("comeBack", depot -> depot.comeBack(0));
        changes.put("runCommands", depot -> Depots.feed(depot, "e 1;back 0").runCommands());
        return changes;
    }

    private static void recordedCalls() {
        Check.sentence(0, "The methods buildRoad, acceptParcel, buyGlove");
        changes().forEach((name, change) -> {
            ParcelDepot depot = busy();
            String before = Depots.seen(depot);
            int undoable = depot.undoCount();
            change.accept(depot);
            Check.equal("undoCount() after " + name, undoable + 1, depot.undoCount());
            Check.equal(name + " changing nothing", name.endsWith("same"), before.equals(Depots.seen(depot)));
            depot.undo();
            Check.equal("the state after undo of " + name, before, Depots.seen(depot));
            Check.equal("undoCount() after undo of " + name, undoable, depot.undoCount());
        });
        ParcelDepot depot = Depots.addWeights(new ParcelDepot(), 5);
        String before = Depots.seen(depot);
        Depots.run(depot, "put 0 1;out 0");
        Check.equal("the state after commands that change nothing", before, Depots.seen(depot));
        Check.equal("undoCount() after commands that change nothing", 2, depot.undoCount());
    }

    private static void callsThatAreNotRecorded() {
        Check.sentence(0, "The methods buildRoad, acceptParcel, buyGlove");
        ParcelDepot depot = busy();
        int undoable = depot.undoCount();
        String before = Depots.seen(depot);
        depot.feed('x');
        depot.writeSack(0);
        depot.save();
        depot.isConsistent();
        depot.gloveFor(1);
        depot.mostFitting(1);
        depot.handleable();
        depot.farthestPlace(1);
        depot.effortTo(1, 2);
        depot.heaviest(0);
        depot.outputChar(0);
        Check.equal("undoCount() after calls that are not recorded", undoable, depot.undoCount());
        Check.equal("the state after them", before, Depots.seen(depot));
        Check.equal("undo() of the latest recorded call", undoable - 1, depot.undo());
        Check.equal("undoCount() after undo", undoable - 1, depot.undoCount());
        Check.holds("undo() reaching behind them", !before.equals(Depots.seen(depot)));
    }

    private static void eightCallsAreUndone() {
        Check.sentence(0, "At most the 8 latest calls can be undone.");
        // Far more calls than can be undone, so that each of the rows that hold them is used again at each place.
        for (int calls = 7; calls <= 40; calls++) {
            ParcelDepot depot = new ParcelDepot();
            for (int call = 1; call <= calls; call++) {
                depot.setCapacity(1, call);
            }
            int undoable = Math.min(8, calls);
            for (int left = undoable - 1; left >= 0; left--) {
                Check.equal("undo() after " + calls + " calls", left, depot.undo());
                int due = calls - undoable + left;
                Check.equal("the capacity then", due == 0 ? 30 : due, depot.capacity(1));
            }
            Check.refused("undo() once more", STATE, depot::undo);
        }
    }

    private static void whatUndoLeaves() {
        Check.sentence(0, "The input buffer, the output, the error position and the failed command are not part");
        ParcelDepot depot = besideChanged(new ParcelDepot());
        String beside = Depots.beside(depot);
        Check.equal("undo()", 1, depot.undo());
        Check.equal("undo() again", 0, depot.undo());
        Check.equal("the state", Depots.seen(new ParcelDepot()), Depots.seen(depot));
        Check.equal("what stands beside it", beside, Depots.beside(depot));
        Check.equal("the commands in the input buffer", 1, depot.runCommands());
        Check.equal("the glove that they buy", 3, depot.grade(0));
        depot.undo();
        Check.equal("the input buffer after undo of runCommands", 1, depot.feed('g'));
    }

    /** Makes two recorded calls, each before a change of what stands beside the state. */
    private static ParcelDepot besideChanged(ParcelDepot depot) {
        depot.acceptParcel(12, 0, 5);
        Depots.answer(() -> Depots.run(depot, "glove 1;glove 4"));
        Depots.answer(() -> Depots.run(depot, "glove?"));
        depot.put(0, 2);
        depot.writeSack(2);
        Check.equal("what stands beside the state", "output s2@0 12>5 error 5 failed 1", Depots.beside(depot));
        return Depots.feed(depot, "glove 3");
    }

    private static void whatRestoreLeaves() {
        Check.sentence(0, "The input buffer, the output, the error position and the failed command are not part");
        ParcelDepot depot = new ParcelDepot();
        depot.save();
        besideChanged(depot);
        String beside = Depots.beside(depot);
        Check.equal("restore()", 0, depot.restore());
        Check.equal("the state", Depots.seen(new ParcelDepot()), Depots.seen(depot));
        Check.equal("what stands beside it", beside, Depots.beside(depot));
        Check.equal("the commands in the input buffer", 1, depot.runCommands());
        depot.restore();
        Check.equal("the input buffer after restore", 1, depot.feed('g'));
        depot.save();
        Check.equal("the input buffer after save", 2, depot.feed('l'));
        Check.equal("what stands beside the state after save", beside, Depots.beside(depot));
    }

    /** A depot where all stores are full: roads, parcels, gloves, sacks, calls to undo and input. */
    static ParcelDepot full() {
        ParcelDepot depot = Depots.withGloves(1, 1, 1, 1, 2, 2, 2, 2);
        for (int first = 0; first < 6; first++) {
            for (int second = first + 1; second < 6; second++) {
                depot.buildRoad(first, second, first + second);
            }
        }
        for (int parcel = 0; parcel < 12; parcel++) {
            depot.acceptParcel(5, parcel == 11 ? 3 : 0, parcel % 6);
        }
        depot.save();
        for (int parcel = 0; parcel < 6; parcel++) {
            depot.put(parcel, 1);
        }
        depot.put(6, 0);
        depot.writeSack(1);
        depot.carry(1, 5);
        depot.carry(1, 0);
        Depots.answer(() -> Depots.run(depot, "glove?"));
        return Depots.feed(depot, "out 0;put 0 1;out 00;carry 1 1;carry 1 2;carry 1 0;carry 1 3");
    }

    private static void refusedCallsLeaveAll() {
        Check.sentence(0, "A method that throws an exception leaves the state unchanged");
        leavesAll("no place", INDEX, depot -> depot.buildRoad(0, 6, 1));
        leavesAll("the same place", ARGUMENT, depot -> depot.buildRoad(1, 1, 1));
        leavesAll("no such length", ARGUMENT, depot -> depot.buildRoad(0, 1, 21));
        leavesAll("the same road", STATE, depot -> depot.buildRoad(1, 0, 20));
        leavesAll("a parcel for no place", INDEX, depot -> depot.acceptParcel(1, 0, 6));
        leavesAll("no such weight", ARGUMENT, depot -> depot.acceptParcel(21, 0, 0));
        leavesAll("no such hazard", ARGUMENT, depot -> depot.acceptParcel(1, 4, 0));
        Check.leavesAll("a parcel too many", RulesTest::full, STATE, depot -> depot.acceptParcel(1, 0, 0));
        leavesAll("no such grade", ARGUMENT, depot -> depot.buyGlove(4));
        Check.leavesAll("a glove too many", RulesTest::full, STATE, depot -> depot.buyGlove(3));
        leavesAll("the capacity of no sack", INDEX, depot -> depot.setCapacity(3, 1));
        leavesAll("no such capacity", ARGUMENT, depot -> depot.setCapacity(2, 61));
        Check.leavesAll("a capacity below the load", RulesTest::full, STATE, depot -> depot.setCapacity(1, 19));
        leavesAll("putting no parcel", INDEX, depot -> depot.put(12, 0));
        leavesAll("putting into no sack", INDEX, depot -> depot.put(3, 3));
        Check.leavesAll("putting what is in a sack", RulesTest::full, STATE, depot -> depot.put(6, 1));
        Check.leavesAll("putting what was delivered", RulesTest::full, STATE, depot -> depot.put(5, 1));
        Check.leavesAll("putting too much", RulesTest::tight, UNSUPPORTED, depot -> depot.put(1, 0));
        Check.leavesAll("putting without a glove", RulesTest::full, ELEMENT, depot -> depot.put(11, 2));
        leavesAll("taking out no parcel", INDEX, depot -> depot.takeOut(12));
        Check.leavesAll("taking out what waits", RulesTest::full, STATE, depot -> depot.takeOut(7));
        Check.leavesAll("taking out without a glove", RulesTest::worn, ELEMENT, depot -> depot.takeOut(0));
        leavesAll("carrying no sack", INDEX, depot -> depot.carry(3, 1));
        leavesAll("carrying to no place", INDEX, depot -> depot.carry(0, 6));
        Check.leavesAll("carrying to the same place", RulesTest::full, ARGUMENT, depot -> depot.carry(1, 0));
        Check.leavesAll("carrying without a way", RulesTest::tight, ELEMENT, depot -> depot.carry(0, 5));
        leavesAll("no parcel coming back", INDEX, depot -> depot.comeBack(12));
        Check.leavesAll("a waiting parcel coming back", RulesTest::full, STATE, depot -> depot.comeBack(7));
        Check.leavesAll("a parcel in a sack coming back", RulesTest::full, STATE, depot -> depot.comeBack(6));
        Check.leavesAll("a character too many", RulesTest::full, STATE, depot -> depot.feed('x'));
        Check.leavesAll("undo of no call", ParcelDepot::new, STATE, ParcelDepot::undo);
        Check.leavesAll("restore without save", RulesTest::worn, STATE, ParcelDepot::restore);
    }

    /** Refused by a depot with something of everything, and by one whose stores are full. */
    private static void leavesAll(String what, Class<? extends RuntimeException> due, Consumer<ParcelDepot> call) {
        Check.leavesAll(what, RulesTest::busyWithRoad, due, call);
        Check.leavesAll(what + " when all is full", RulesTest::full, due, call);
    }

    private static ParcelDepot busyWithRoad() {
        ParcelDepot depot = busy();
        depot.undo();
        return Depots.feed(depot, "e 3");
    }

    /** A depot whose sack 0 has no room for another parcel of weight 1; place 5 cannot be reached. */
    private static ParcelDepot tight() {
        ParcelDepot depot = Depots.addWeights(new ParcelDepot(), 20, 1);
        depot.buildRoad(0, 1, 3);
        depot.put(0, 0);
        depot.setCapacity(0, 20);
        return depot;
    }

    /** A depot with a parcel in a sack that cannot be taken out; nothing was saved. */
    private static ParcelDepot worn() {
        ParcelDepot depot = Depots.addHazards(Depots.withGloves(1, 2), 2);
        Depots.run(depot, "put 0 2;out 0;put 0 1");
        return depot;
    }

    private static void refusedQueriesLeaveAll() {
        Check.sentence(0, "A method that throws an exception leaves the state unchanged");
        List<Consumer<ParcelDepot>> indices = new ArrayList<>();
        indices.add(depot -> depot.roadLength(6, 0));
        indices.add(depot -> depot.distance(0, 6));
        indices.add(depot -> depot.distanceByRounds(-1, 0));
        indices.add(depot -> depot.farthestPlace(6));
        indices.add(depot -> depot.weight(12));
        indices.add(depot -> depot.hazard(12));
        indices.add(depot -> depot.destination(12));
        indices.add(depot -> depot.state(12));
        indices.add(depot -> depot.sackOf(12));
        indices.add(depot -> depot.returns(12));
        indices.add(depot -> depot.grade(8));
        indices.add(depot -> depot.usesLeft(8));
        indices.add(depot -> depot.gloveFor(12));
        indices.add(depot -> depot.canHandle(12));
        indices.add(depot -> depot.place(3));
        indices.add(depot -> depot.capacity(3));
        indices.add(depot -> depot.load(3));
        indices.add(depot -> depot.parcelsIn(3));
        indices.add(depot -> depot.mostFitting(3));
        indices.add(depot -> depot.mostFittingByTable(3));
        indices.add(depot -> depot.effortTo(3, 0));
        indices.add(depot -> depot.effortTo(0, 6));
        indices.add(depot -> depot.writeSack(3));
        indices.add(depot -> depot.outputChar(100));
        for (int query = 0; query < indices.size(); query++) {
            leavesAll("query " + query, INDEX, indices.get(query));
        }
        leavesAll("no rank", ELEMENT, depot -> depot.heaviest(12));
        leavesAll("no road", ELEMENT, depot -> depot.roadLength(1, 1));
        Check.leavesAll("no way", RulesTest::tight, ELEMENT, depot -> depot.distance(0, 5));
        Check.leavesAll("no way by rounds", RulesTest::tight, ELEMENT, depot -> depot.distanceByRounds(0, 5));
        Check.leavesAll("no effort", RulesTest::tight, ELEMENT, depot -> depot.effortTo(0, 5));
        Check.leavesAll("in no sack", RulesTest::full, ELEMENT, depot -> depot.sackOf(7));
        Check.leavesAll("no glove needed", RulesTest::full, UNSUPPORTED, depot -> depot.gloveFor(7));
        Check.leavesAll("no glove", RulesTest::full, ELEMENT, depot -> depot.gloveFor(11));
        Check.leavesAll("no mean", ParcelDepot::new, ArithmeticException.class, ParcelDepot::meanHazard);
        Check.leavesAll("no share", ParcelDepot::new, ArithmeticException.class, ParcelDepot::deliveredShare);
        Check.leavesAll("no error", ParcelDepot::new, ELEMENT, ParcelDepot::errorPosition);
        Check.leavesAll("no failed command", ParcelDepot::new, ELEMENT, ParcelDepot::failedCommand);
    }

    private static void firstExceptionOfChanges() {
        Check.sentence(0, "If several exceptions apply, the one listed first is thrown.");
        ParcelDepot depot = full();
        Check.refused("no place; the same", INDEX, () -> depot.buildRoad(6, 6, 1));
        Check.refused("no place; no such length", INDEX, () -> depot.buildRoad(0, -1, 0));
        Check.refused("no such length; a road", ARGUMENT, () -> depot.buildRoad(0, 1, 0));
        Check.refused("no place; no such weight; too many", INDEX, () -> depot.acceptParcel(0, 0, 6));
        Check.refused("no place; no such hazard; too many", INDEX, () -> depot.acceptParcel(1, 4, -1));
        Check.refused("no place; too many", INDEX, () -> depot.acceptParcel(1, 0, 6));
        Check.refused("no such weight; too many", ARGUMENT, () -> depot.acceptParcel(21, 0, 0));
        Check.refused("no such hazard; too many", ARGUMENT, () -> depot.acceptParcel(1, -1, 0));
        Check.refused("no such grade; too many", ARGUMENT, () -> depot.buyGlove(0));
        Check.refused("no sack; no such capacity", INDEX, () -> depot.setCapacity(3, 0));
        Check.refused("no such capacity; below the load", ARGUMENT, () -> depot.setCapacity(1, 0));
        ParcelDepot other = Depots.addHazards(Depots.withGloves(1), 1, 2, 2);
        other.acceptParcel(20, 2, 1);
        other.setCapacity(0, 1);
        Depots.run(other, "put 0 0;out 0;put 0 0");
        Check.refused("no sack; not waiting", INDEX, () -> other.put(0, 3));
        Check.refused("no sack; no glove", INDEX, () -> other.put(1, -1));
        Check.refused("no parcel; too much", INDEX, () -> other.put(4, 0));
        Check.refused("not waiting; too much; no glove", STATE, () -> other.put(0, 0));
        Check.refused("not waiting; no glove", STATE, () -> other.put(0, 1));
        Check.refused("too much; no glove", UNSUPPORTED, () -> other.put(1, 0));
        Check.refused("far too much; no glove", UNSUPPORTED, () -> other.put(3, 0));
        Check.refused("no glove", ELEMENT, () -> other.put(3, 1));
        Check.refused("not in a sack; no glove", STATE, () -> other.takeOut(1));
        Check.refused("no sack; no way", INDEX, () -> other.carry(3, 5));
        Check.refused("no sack; no place", INDEX, () -> other.carry(3, 6));
        Check.refused("no place; no way", INDEX, () -> other.carry(0, 6));
        Check.refused("no sack; no effort", INDEX, () -> other.effortTo(-1, 5));
        Check.refused("no place; no road", INDEX, () -> other.roadLength(0, 6));
        Check.refused("no place; no distance", INDEX, () -> other.distance(6, 0));
        Check.refused("no place; no distance by rounds", INDEX, () -> other.distanceByRounds(6, 6));
        Check.refused("no parcel; in no sack", INDEX, () -> other.sackOf(4));
        Check.refused("no parcel; no glove", INDEX, () -> other.gloveFor(4));
    }

    private static void firstExceptionOfTexts() {
        Check.sentence(0, "If several exceptions apply, the one listed first is thrown.");
        ParcelDepot depot = new ParcelDepot();
        Check.refused("a failing command in a malformed text", ARGUMENT, () -> Depots.run(depot, "glove 1;glove 4;x"));
        Check.equal("its error position", 16, depot.errorPosition());
        Check.refused("its failed command", ELEMENT, depot::failedCommand);
        Check.refused("two failing commands", UNSUPPORTED, () -> Depots.run(depot, "glove 1;put 9 9;back 0"));
        Check.equal("the first of them", 1, depot.failedCommand());
    }

    private static void puttingWhereverTheSackIs() {
        Check.sentence(0, "A waiting parcel can be put into a sack wherever the sack is.");
        for (int place = 1; place < 6; place++) {
            ParcelDepot depot = Depots.addWeights(new ParcelDepot(), 7);
            depot.buildRoad(0, place, 1);
            depot.carry(1, place);
            Check.equal("put into a sack at place " + place, 7, depot.put(0, 1));
            Check.equal("the place of the sack", place, depot.place(1));
        }
    }

    private static void puttingAtTheDestination() {
        Check.sentence(0, "A parcel that is put into a sack at its own destination is not delivered by that");
        ParcelDepot depot = new ParcelDepot();
        depot.buildRoad(0, 3, 2);
        depot.acceptParcel(4, 0, 0);
        depot.put(0, 1);
        Check.equal("the state of a parcel put at its destination", 's', depot.state(0));
        Check.refused("carrying the sack to where it is", ARGUMENT, () -> depot.carry(1, 0));
        Check.equal("the state after that", 's', depot.state(0));
        Check.equal("carrying another sack away", 0, depot.carry(2, 3));
        Check.equal("carrying another sack there", 0, depot.carry(2, 0));
        Check.equal("carrying the sack away", 0, depot.carry(1, 3));
        Check.equal("the state at another place", 's', depot.state(0));
        Check.equal("carrying the sack there", 1, depot.carry(1, 0));
        Check.equal("the state then", 'd', depot.state(0));
    }

    private static void lastCalls() {
        Check.sentence(0, "An object is used for at most 512 calls after it has been made");
        ParcelDepot changed = new ParcelDepot();
        ParcelDepot fed = new ParcelDepot();
        ParcelDepot refused = new ParcelDepot();
        for (int call = 1; call <= 511; call++) {
            int capacity = call % 60 + 1;
            Check.equal("setCapacity", call == 1 ? 30 : (call - 1) % 60 + 1, changed.setCapacity(0, capacity));
            if (call % 61 == 0) {
                Depots.answer(fed::runCommands);
            } else {
                Check.equal("feed", call % 61, fed.feed('g'));
            }
            Check.refused("putting no parcel", INDEX, () -> refused.put(0, 0));
        }
        Check.equal("undo() as the last call", 7, changed.undo());
        Check.equal("feed as the last call", 512 % 61, fed.feed('g'));
        Check.equal("buildRoad as the last call", 1, refused.buildRoad(0, 1, 20));
    }
}
