import java.util.NoSuchElementException;

/** Promises 44 to 47: the input buffer and the commands in it. */
final class CommandsTest {
    private static final Class<IllegalArgumentException> ARGUMENT = IllegalArgumentException.class;
    private static final Class<IllegalStateException> STATE = IllegalStateException.class;
    private static final Class<NoSuchElementException> ELEMENT = NoSuchElementException.class;
    private static final Class<UnsupportedOperationException> UNSUPPORTED = UnsupportedOperationException.class;

    private CommandsTest() {
    }

    static void run() {
        charactersAreFed();
        eachCommandIsCarriedOut();
        severalCommandsAreCarriedOut();
        malformedTextsAreRefused();
        prefixesEndTooEarly();
        failedCommandsAreTold();
        failureKeepsTheState();
        positionsAreKept();
    }

    private static void charactersAreFed() {
        Check.promise(44);
        ParcelDepot depot = new ParcelDepot();
        char[] odd = {'r', 0, (char) 255, (char) 256, Character.MAX_VALUE, '\n'};
        for (int index = 0; index < 60; index++) {
            Check.equal("feed", index + 1, depot.feed(odd[index % odd.length]));
        }
        Check.refused("a character too many", STATE, () -> depot.feed('x'));
        Check.refused("one more", STATE, () -> depot.feed('x'));
        Check.equal("undoCount() after feed", 0, depot.undoCount());
        Check.refused("the odd text", ARGUMENT, depot::runCommands);
        Check.equal("feed after runCommands", 1, depot.feed('g'));
    }

    private static void eachCommandIsCarriedOut() {
        Check.promise(45);
        ParcelDepot depot = new ParcelDepot();
        Check.equal("road", 1, Depots.run(depot, "road 0-5 20"));
        Check.equal("roadLength(5, 0)", 20, depot.roadLength(5, 0));
        Check.equal("road with one digit", 1, Depots.run(depot, "road 4-5 3"));
        Check.equal("distance(0, 4)", 23, depot.distance(0, 4));
        Check.equal("parcel", 1, Depots.run(depot, "parcel 12 3 4"));
        Check.equal("parcel with one digit", 1, Depots.run(depot, "parcel 7 0 5"));
        Check.equal("the parcels", "12 3 4 7 0 5", depot.weight(0) + " " + depot.hazard(0) + " " + depot.destination(0)
                + " " + depot.weight(1) + " " + depot.hazard(1) + " " + depot.destination(1));
        Check.equal("glove", 1, Depots.run(depot, "glove 3"));
        Check.equal("grade(0)", 3, depot.grade(0));
        Check.equal("put", 1, Depots.run(depot, "put 0 2"));
        Check.equal("put with two digits", 1, Depots.run(depot, "put 01 2"));
        Check.equal("load(2)", 19, depot.load(2));
        Check.equal("out", 1, Depots.run(depot, "out 1"));
        Check.equal("state(1)", 'w', depot.state(1));
        Check.equal("carry", 1, Depots.run(depot, "carry 2 4"));
        Check.equal("state(0)", 'd', depot.state(0));
        Check.equal("effortSoFar()", 23 * 12, depot.effortSoFar());
        Check.equal("back", 1, Depots.run(depot, "back 00"));
        Check.equal("returns(0)", 1, depot.returns(0));
        Check.equal("undoCount()", 8, depot.undoCount());
        ParcelDepot full = Depots.addWeights(new ParcelDepot(), 1, 1, 1, 1, 1, 1, 1, 1, 1, 1, 1, 1);
        Check.equal("put of parcel 11", 1, Depots.run(full, "put 11 1"));
        Check.equal("sackOf(11)", 1, full.sackOf(11));
        Check.equal("out of parcel 11", 1, Depots.run(full, "out 11"));
        Check.equal("state(11)", 'w', full.state(11));
    }

    private static void severalCommandsAreCarriedOut() {
        Check.promise(45);
        ParcelDepot depot = new ParcelDepot();
        Check.equal("five commands", 5, Depots.run(depot, "road 0-3 7;parcel 9 2 3;glove 2;put 00 1;carry 1 3"));
        Check.equal("state(0)", 'd', depot.state(0));
        Check.equal("undoCount(), one for all", 1, depot.undoCount());
        Check.equal("feed into the empty buffer", 1, depot.feed('g'));
        Check.equal("the rest of the command", 1, Depots.run(depot, "love 1"));
        depot.undo();
        depot.undo();
        Check.equal("the state after undo", Depots.seen(new ParcelDepot()), Depots.seen(depot));
        ParcelDepot other = new ParcelDepot();
        Check.equal("seven commands", 7, Depots.run(other, "glove 1;glove 2;glove 3;glove 1;glove 2;glove 3;glove 1"));
        Check.equal("gloveCount()", 7, other.gloveCount());
        ParcelDepot filled = Depots.addWeights(new ParcelDepot(), 1, 1, 1, 1, 1, 1, 1, 1, 1, 1, 1, 1);
        for (int parcel = 0; parcel < 12; parcel++) {
            filled.put(parcel, parcel % 3);
        }
        Check.equal("ten commands in 60 characters", 10,
                Depots.run(filled, "out 0;out 1;out 2;out 3;out 4;out 5;out 6;out 7;out 8;out 10"));
        Check.equal("waitingCount()", 10, filled.waitingCount());
    }

    private static void malformedTextsAreRefused() {
        malformed("", 0);
        malformed(";", 0);
        malformed(" glove 1", 0);
        malformed("Glove 1", 0);
        malformed("xoad 0-1 1", 0);
        malformed("1", 0);
        malformed("\u0167love 1", 0);
        malformed("pxt 0 0", 1);
        malformed("paX", 2);
        malformed("puX", 2);
        malformed("pat 0 0", 2);
        malformed("put0 0", 3);
        malformed("parcel  7 0 5", 7);
        malformed("parcel 123 0 5", 9);
        malformed("parcel 12 34 5", 11);
        malformed("parcel 12 3 45", 13);
        malformed("parcel -1 0 0", 7);
        malformed("parcel 1 0", 10);
        malformed("road 10-2 3", 6);
        malformed("road 1 2 3", 6);
        malformed("road 1-2 123", 11);
        malformed("road 1-22 3", 8);
        malformed("road 1-2", 8);
        malformed("glove 12", 7);
        malformed("glove 1 ", 7);
        malformed("glove x", 6);
        malformed("gloves 1", 5);
        malformed("put 123 1", 6);
        malformed("put 1 12", 7);
        malformed("put 1,1", 5);
        malformed("out 123", 6);
        malformed("out /", 4);
        malformed("out :", 4);
        malformed("out 1/", 5);
        malformed("out 1:", 5);
        malformed("out \u0661", 4);
        malformed("carry 01 1", 7);
        malformed("carry 1 11", 9);
        malformed("cary 1 1", 3);
        malformed("back 000", 7);
        malformed("back 1;", 7);
        malformed("back 1; glove 1", 7);
        malformed("back 1;;glove 1", 7);
        malformed("glove 1;glove 2;glove", 21);
        malformed("glove 1;glove 2 glove 3", 15);
        malformed("glove 1;pet 1 1", 9);
        malformed("glove 1\n", 7);
        malformed("out 0;out 1;out 2;out 3;out 4;out 5;out 6;out 7;out 8;out 9;", 60);
        malformed("out 0;out 1;out 2;out 3;out 4;out 5;out 6;out 7;out 8;out 1x", 59);
    }

    private static void malformed(String text, int position) {
        ParcelDepot depot = Depots.withGloves(1, 1);
        String before = Depots.seen(depot);
        Check.promise(45);
        Check.refused("the text '" + text + "'", ARGUMENT, () -> Depots.run(depot, text));
        Check.equal("the state after a malformed text", before, Depots.seen(depot));
        Check.equal("undoCount() after a malformed text", 2, depot.undoCount());
        Check.equal("feed after a malformed text", 1, depot.feed('b'));
        Check.promise(46);
        Check.equal("errorPosition() of '" + text + "'", position, depot.errorPosition());
        Check.promise(47);
        Check.refused("failedCommand() after a malformed text", ELEMENT, depot::failedCommand);
    }

    private static void prefixesEndTooEarly() {
        String[] texts = {"road 0-1 1", "parcel 1 1 1", "glove 1", "put 1 1", "out 1", "carry 1 1", "back 1"};
        for (String text : texts) {
            for (int length = 0; length < text.length(); length++) {
                malformed(text.substring(0, length), length);
                malformed(text.substring(0, length) + "#", length);
            }
            malformed(text + "#", text.length());
        }
    }

    private static void failedCommandsAreTold() {
        failed("road 0-6 1", 0);
        failed("road 9-0 1", 0);
        failed("road 1-1 1", 0);
        failed("road 0-1 21", 0);
        failed("road 0-1 0", 0);
        failed("road 0-1 00", 0);
        failed("road 0-1 1;road 1-0 2", 1);
        failed("parcel 0 1 1", 0);
        failed("parcel 21 1 1", 0);
        failed("parcel 1 4 1", 0);
        failed("parcel 1 1 6", 0);
        failed("glove 0", 0);
        failed("glove 4", 0);
        failed("glove 3;glove 2;glove 1;put 0 0", 3);
        failed("parcel 1 1 1;put 0 3", 1);
        failed("parcel 1 1 1;put 0 0", 1);
        failed("parcel 1 0 1;put 0 0;put 0 1", 2);
        failed("parcel 20 0 1;parcel 11 0 1;put 0 1;put 1 1", 3);
        failed("out 0", 0);
        failed("parcel 1 0 1;out 0", 1);
        failed("parcel 1 2 1;glove 2;put 0 0;out 0;put 0 0;out 0", 5);
        failed("carry 3 1", 0);
        failed("carry 0 6", 0);
        failed("carry 0 0", 0);
        failed("carry 0 1", 0);
        failed("back 0", 0);
        failed("parcel 1 0 1;back 0", 1);
        failed("out 0;out 1;out 2;out 3;out 4;out 5;out 6;out 7;out 8;out 9", 0);
    }

    private static void failed(String text, int index) {
        ParcelDepot depot = new ParcelDepot();
        depot.setCapacity(0, 30);
        String before = Depots.seen(depot);
        Check.promise(45);
        Check.refused("the text '" + text + "'", UNSUPPORTED, () -> Depots.run(depot, text));
        Check.equal("the state after a failed command", before, Depots.seen(depot));
        Check.equal("undoCount() after a failed command", 1, depot.undoCount());
        Check.equal("feed after a failed command", 1, depot.feed('b'));
        Check.promise(46);
        Check.refused("errorPosition() after a failed command", ELEMENT, depot::errorPosition);
        Check.promise(47);
        Check.equal("failedCommand() of '" + text + "'", index, depot.failedCommand());
    }

    private static void failureKeepsTheState() {
        Check.promise(45);
        ParcelDepot depot = Depots.withGloves(1, 2, 3, 1, 2, 3);
        depot.buildRoad(0, 1, 5);
        depot.acceptParcel(7, 1, 1);
        depot.acceptParcel(8, 0, 2);
        depot.put(0, 0);
        String before = Depots.seen(depot);
        Check.refused("a text that fails late", UNSUPPORTED,
                () -> Depots.run(depot, "put 1 0;carry 0 1;back 0;road 2-3 4;glove 1;glove 1;glove 1"));
        Check.equal("failedCommand()", 6, depot.failedCommand());
        Check.equal("the state after a late failure", before, Depots.seen(depot));
        Check.equal("undoCount() after a late failure", 8, depot.undoCount());
        for (int left = 7; left >= 0; left--) {
            Check.equal("undo() after a late failure", left, depot.undo());
        }
        Check.equal("gloveCount() after eight times undo", 2, depot.gloveCount());
    }

    private static void positionsAreKept() {
        ParcelDepot depot = new ParcelDepot();
        Check.promise(46);
        Check.refused("errorPosition() at first", ELEMENT, depot::errorPosition);
        Check.promise(47);
        Check.refused("failedCommand() at first", ELEMENT, depot::failedCommand);
        Check.refused("a malformed text", ARGUMENT, () -> Depots.run(depot, "road!"));
        Check.refused("a failed command", UNSUPPORTED, () -> Depots.run(depot, "glove 1;glove 4"));
        Depots.run(depot, "glove 1");
        Check.promise(46);
        Check.equal("errorPosition() after other texts", 4, depot.errorPosition());
        Check.promise(47);
        Check.equal("failedCommand() after another text", 1, depot.failedCommand());
        Check.refused("a text malformed elsewhere", ARGUMENT, () -> Depots.run(depot, "glove 1;"));
        Check.equal("failedCommand() after a malformed text", 1, depot.failedCommand());
        Check.promise(46);
        Check.equal("errorPosition() of the latest malformed text", 8, depot.errorPosition());
        Check.promise(47);
        Check.refused("a command failed earlier", UNSUPPORTED, () -> Depots.run(depot, "glove 0"));
        Check.equal("failedCommand() of the latest failed call", 0, depot.failedCommand());
        depot.save();
        depot.undo();
        depot.restore();
        Check.equal("failedCommand() after undo and restore", 0, depot.failedCommand());
        Check.promise(46);
        Check.equal("errorPosition() after undo and restore", 8, depot.errorPosition());
    }
}
