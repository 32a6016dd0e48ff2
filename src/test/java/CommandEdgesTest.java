import java.util.NoSuchElementException;

/** Promises 44 to 49: a test for each of their sentences. */
final class CommandEdgesTest {
    private static final Class<IndexOutOfBoundsException> INDEX = IndexOutOfBoundsException.class;
    private static final Class<IllegalArgumentException> ARGUMENT = IllegalArgumentException.class;
    private static final Class<IllegalStateException> STATE = IllegalStateException.class;
    private static final Class<NoSuchElementException> ELEMENT = NoSuchElementException.class;
    private static final Class<UnsupportedOperationException> UNSUPPORTED = UnsupportedOperationException.class;

    private CommandEdgesTest() {
    }

    static void run() {
        feed();
        feedRefused();
        runCommands();
        stateFromBeforeTheCall();
        emptyInputAfterwards();
        runCommandsRefused();
        errorPosition();
        failedCommand();
        writeSack();
        partsOfTheDescription();
        outputChar();
    }

    private static void feed() {
        Check.sentence(44, "Appends a character to the input buffer.");
        ParcelDepot depot = new ParcelDepot();
        for (char character : "glove 2".toCharArray()) {
            depot.feed(character);
        }
        Check.equal("the text in its order", 1, depot.runCommands());
        Check.equal("what it does", 2, depot.grade(0));
        Check.sentence(44, "`character`: any character");
        for (int code : new int[] {0, 1, ';', ' ', 127, 128, 255, 256, 0xD800, 0xFFFF}) {
            ParcelDepot other = Depots.feed(new ParcelDepot(), "glove 1");
            Check.equal("character " + code, 8, other.feed((char) code));
        }
        Check.sentence(44, "Returns the new length of the input buffer.");
        ParcelDepot full = new ParcelDepot();
        for (int length = 1; length <= 60; length++) {
            Check.equal("the length", length, full.feed('g'));
        }
        Depots.answer(full::runCommands);
        Check.equal("the length after runCommands", 1, full.feed('g'));
        full.save();
        full.restore();
        Check.equal("the length after restore", 2, full.feed('l'));
    }

    private static void feedRefused() {
        Check.sentence(44, "Throws `IllegalStateException` if the input buffer holds 60 characters");
        String text = "out 0;put 0 1;out 00;put 00 1;out 0;put 00 2;out 00;put 00 0";
        Check.equal("the text's length", 60, text.length());
        ParcelDepot depot = Depots.addWeights(new ParcelDepot(), 1);
        depot.put(0, 1);
        Depots.feed(depot, text.substring(0, 59));
        Check.equal("the sixtieth character", 60, depot.feed(text.charAt(59)));
        for (int round = 0; round < 3; round++) {
            Check.refused("a character more", STATE, () -> depot.feed('1'));
        }
        Check.equal("the text of sixty characters", 8, depot.runCommands());
        Check.equal("what it does", 0, depot.sackOf(0));
        Check.equal("a character afterwards", 1, depot.feed('x'));
    }

    private static void runCommands() {
        Check.sentence(45, "Carries out the text in the input buffer, command by command.");
        ParcelDepot depot = new ParcelDepot();
        // Each command needs those before it.
        Depots.run(depot, "parcel 9 1 1;glove 1;put 0 2;out 0;put 0 1;road 0-1 7");
        Check.equal("the uses left", 0, depot.gloveCount());
        Check.equal("the sack", 1, depot.sackOf(0));
        Depots.run(depot, "carry 1 1;back 0;glove 2;put 0 0");
        Check.equal("the parcel", "s 2 1 0",
                depot.state(0) + " " + depot.hazard(0) + " " + depot.returns(0) + " " + depot.sackOf(0));
        Check.equal("the effort", 63, depot.effortSoFar());
        Check.sentence(45, "Returns the number of commands.");
        Check.equal("one", 1, Depots.run(new ParcelDepot(), "glove 1"));
        Check.equal("two", 2, Depots.run(new ParcelDepot(), "glove 1;glove 1"));
        ParcelDepot loaded = Depots.addWeights(new ParcelDepot(), 1, 1, 1, 1, 1, 1, 1, 1, 1, 1, 1);
        for (int parcel = 0; parcel < 11; parcel++) {
            loaded.put(parcel, 0);
        }
        Check.equal("ten in 60 characters", 10,
                Depots.run(loaded, "out 0;out 1;out 2;out 3;out 4;out 5;out 6;out 7;out 8;out 10"));
        Check.equal("the parcel left in the sack", 's', loaded.state(9));
    }

    private static void stateFromBeforeTheCall() {
        Check.sentence(45, "If a command throws an exception, the state from before the call is kept.");
        String[] texts = {"glove 1;glove 4", "road 3-4 1;road 4-3 1", "put 3 0;put 3 0", "out 1;out 1",
            "carry 0 0;carry 1 1;back 0;carry 1 1", "back 0;back 0", "parcel 1 1 1;parcel 1 1 9",
            "glove 1;glove 1;glove 1;glove 1;glove 1;glove 1"};
        for (String text : texts) {
            // The busy depot's input holds half a text: it is made malformed, which empties it.
            Check.leavesState("'" + text + "'", CommandEdgesTest::busy, UNSUPPORTED,
                    depot -> Depots.run(depot, text));
        }
        ParcelDepot full = RulesTest.full();
        Depots.answer(full::runCommands);
        String before = Depots.seen(full);
        int undoable = full.undoCount();
        Check.refused("a failing text with all full", UNSUPPORTED, () -> Depots.run(full, "out 6;carry 1 1;glove 1"));
        Check.equal("the state after that", before, Depots.seen(full));
        Check.equal("the calls that can be undone", undoable, full.undoCount());
    }

    private static ParcelDepot busy() {
        ParcelDepot depot = RulesTest.busy();
        Depots.answer(() -> Depots.run(depot, "!"));
        return depot;
    }

    private static void emptyInputAfterwards() {
        Check.sentence(45, "The input buffer is empty afterwards in all cases.");
        for (String text : new String[] {"glove 1", "glove 1;glove 4", "glove 1;", "x", ""}) {
            ParcelDepot depot = Depots.feed(new ParcelDepot(), text);
            Depots.answer(depot::runCommands);
            Check.equal("feed after '" + text + "'", 1, depot.feed('g'));
            Check.equal("the text after '" + text + "'", 1, Depots.run(depot, "love 2"));
            Check.refused("the empty text after that", ARGUMENT, depot::runCommands);
            Check.equal("its error position", 0, depot.errorPosition());
        }
    }

    private static void runCommandsRefused() {
        Check.sentence(45, "Throws `IllegalArgumentException` if the text is malformed; the error position is kept");
        Check.leavesState("a malformed text", CommandEdgesTest::busy, ARGUMENT,
                depot -> Depots.run(depot, "glove 1;glove 2;glove x"));
        ParcelDepot depot = new ParcelDepot();
        Check.refused("a malformed text", ARGUMENT, () -> Depots.run(depot, "glove 1;glove 2;glove x"));
        Check.equal("its error position", 22, depot.errorPosition());
        Check.refused("the failed command", ELEMENT, depot::failedCommand);
        Check.refused("the empty text", ARGUMENT, depot::runCommands);
        Check.equal("its error position", 0, depot.errorPosition());
        Check.sentence(45, "Throws `UnsupportedOperationException` if a command throws an exception; the index");
        String[] texts = {"glove 4", "road 0-0 1", "parcel 1 0 6", "parcel 0 0 0", "put 0 0", "out 0", "carry 0 1",
            "carry 0 0", "back 0"};
        for (String text : texts) {
            ParcelDepot first = new ParcelDepot();
            Check.refused("'" + text + "' alone", UNSUPPORTED, () -> Depots.run(first, text));
            Check.equal("its index", 0, first.failedCommand());
            Check.refused("'" + text + "' behind two others", UNSUPPORTED,
                    () -> Depots.run(first, "glove 1;road 4-5 1;" + text + ";glove 1"));
            Check.equal("its index then", 2, first.failedCommand());
            Check.refused("the error position", ELEMENT, first::errorPosition);
        }
    }

    private static void errorPosition() {
        Check.sentence(46, "Returns the error position of the latest malformed text.");
        ParcelDepot depot = new ParcelDepot();
        Depots.answer(() -> Depots.run(depot, "glove 11"));
        Check.equal("the first malformed text", 7, depot.errorPosition());
        Depots.answer(() -> Depots.run(depot, "glove 4"));
        Depots.run(depot, "glove 1");
        depot.undo();
        Check.equal("after texts that are not malformed", 7, depot.errorPosition());
        Depots.answer(() -> Depots.run(depot, "put 1"));
        Check.equal("the latest malformed text", 5, depot.errorPosition());
        Check.sentence(46, "Returns the error position.");
        Depots.answer(depot::runCommands);
        Check.equal("the least position", 0, depot.errorPosition());
        Depots.answer(() -> Depots.run(depot, "out 0;out 0;out 0;out 0;out 0;out 0;out 0;out 0;out 0;out 0;"));
        Check.equal("the greatest position", 60, depot.errorPosition());
        Check.sentence(46, "Throws `NoSuchElementException` if no text was malformed");
        ParcelDepot none = new ParcelDepot();
        Check.refused("no text", ELEMENT, none::errorPosition);
        Depots.feed(none, "?");
        Check.refused("a text not yet run", ELEMENT, none::errorPosition);
        Depots.answer(none::runCommands);
        Check.equal("that text run", 0, none.errorPosition());
        ParcelDepot other = new ParcelDepot();
        Depots.run(other, "glove 1");
        Depots.answer(() -> Depots.run(other, "glove 4"));
        Check.refused("well-formed texts only", ELEMENT, other::errorPosition);
    }

    private static void failedCommand() {
        Check.sentence(47, "Returns the index of the command, counted from 0, that threw an exception in the latest");
        ParcelDepot depot = new ParcelDepot();
        Depots.answer(() -> Depots.run(depot, "glove 1;glove 2;glove 4;glove 5"));
        Check.equal("the first that threw", 2, depot.failedCommand());
        Depots.run(depot, "glove 1");
        depot.undo();
        Check.equal("after a call that did not fail", 2, depot.failedCommand());
        Depots.answer(() -> Depots.run(depot, "glove 1;back 0"));
        Check.equal("the latest failed call", 1, depot.failedCommand());
        Check.sentence(47, "Returns the index.");
        Depots.answer(() -> Depots.run(depot, "glove 0"));
        Check.equal("the first command", 0, depot.failedCommand());
        ParcelDepot loaded = Depots.addWeights(new ParcelDepot(), 1, 1, 1, 1, 1, 1, 1, 1, 1);
        for (int parcel = 0; parcel < 9; parcel++) {
            loaded.put(parcel, 0);
        }
        Depots.answer(() -> Depots.run(loaded, "out 0;out 1;out 2;out 3;out 4;out 5;out 6;out 7;out 8;out 9"));
        Check.equal("the last of ten commands", 9, loaded.failedCommand());
        Check.sentence(47, "Throws `NoSuchElementException` if no command failed");
        ParcelDepot none = new ParcelDepot();
        Check.refused("no text", ELEMENT, none::failedCommand);
        Depots.run(none, "glove 1");
        Check.refused("a text that did not fail", ELEMENT, none::failedCommand);
        Depots.answer(() -> Depots.run(none, "glove 4;?"));
        Check.refused("a malformed text", ELEMENT, none::failedCommand);
        Depots.answer(() -> none.buyGlove(4));
        Check.refused("a call that is no command", ELEMENT, none::failedCommand);
    }

    private static void writeSack() {
        Check.sentence(48, "Replaces the output by a description of a sack");
        ParcelDepot depot = new ParcelDepot();
        Check.equal("an empty sack", 4, depot.writeSack(2));
        Check.equal("its description", "s2@0", Depots.output(depot));
        Depots.addWeights(depot, 12, 3);
        depot.put(0, 1);
        depot.writeSack(1);
        Check.equal("a longer one in its place", "s1@0 12>5", Depots.output(depot));
        depot.writeSack(0);
        Check.equal("a shorter one in its place", "s0@0", Depots.output(depot));
        Check.sentence(48, "An example is s1@0 7hh>3 12>5.");
        ParcelDepot example = Depots.withGloves(2);
        example.acceptParcel(7, 2, 3);
        example.acceptParcel(12, 0, 5);
        example.put(1, 1);
        example.put(0, 1);
        Check.equal("the example's length", 15, example.writeSack(1));
        Check.equal("the example", "s1@0 7hh>3 12>5", Depots.output(example));
        Check.sentence(48, "`sack`: the sack, 0 to 2");
        Check.range("sack", 0, 2, INDEX, depot::writeSack);
        Check.sentence(48, "Returns the length of the output.");
        Check.equal("the least length", 4, new ParcelDepot().writeSack(0));
        depot.put(1, 2);
        Check.equal("one light parcel", 8, depot.writeSack(2));
        Check.equal("one heavy parcel", 9, depot.writeSack(1));
        ParcelDepot longest = longest();
        Check.equal("the greatest length", 4 + 5 * 8 + 7 * 7, longest.writeSack(0));
        Check.equal("the length that is told", 93, Depots.output(longest).length());
        Check.sentence(48, "Throws `IndexOutOfBoundsException` if there is no such sack");
        Check.beyond("sack", 0, 2, INDEX, depot::writeSack);
        Check.equal("the output after that", "s1@0 12>5", Depots.output(depot));
    }

    /** Five parcels with two digits and seven with one, all of the greatest hazard, in sack 0. */
    private static ParcelDepot longest() {
        ParcelDepot depot = Depots.withGloves(3, 3, 3, 3);
        depot.setCapacity(0, 60);
        for (int parcel = 0; parcel < 12; parcel++) {
            depot.acceptParcel(parcel < 5 ? 10 : 1, 3, 5);
            depot.put(parcel, 0);
        }
        return depot;
    }

    private static void partsOfTheDescription() {
        Check.sentence(48, "Replaces the output by a description of a sack");
        for (int place = 1; place < 6; place++) {
            ParcelDepot depot = new ParcelDepot();
            depot.buildRoad(0, place, 1);
            depot.carry(2, place);
            depot.writeSack(2);
            Check.equal("the place", "s2@" + place, Depots.output(depot));
        }
        for (int weight : new int[] {1, 9, 10, 11, 19, 20}) {
            Check.equal("the weight", "s0@0 " + weight + ">0", described(weight, 0, 0));
        }
        Check.equal("hazard 1", "s0@0 1h>0", described(1, 1, 0));
        Check.equal("hazard 2", "s0@0 1hh>0", described(1, 2, 0));
        Check.equal("hazard 3", "s0@0 1hhh>0", described(1, 3, 0));
        for (int destination = 0; destination < 6; destination++) {
            Check.equal("the destination", "s0@0 1>" + destination, described(1, 0, destination));
        }
        ParcelDepot depot = Depots.addWeights(new ParcelDepot(), 1, 2, 3, 4);
        depot.put(3, 0);
        depot.put(1, 1);
        depot.put(2, 0);
        depot.put(0, 0);
        depot.writeSack(0);
        Check.equal("the order of the indices", "s0@0 1>5 3>5 4>5", Depots.output(depot));
        depot.takeOut(2);
        depot.writeSack(0);
        Check.equal("one taken out", "s0@0 1>5 4>5", Depots.output(depot));
    }

    private static String described(int weight, int hazard, int destination) {
        ParcelDepot depot = Depots.withGloves(3);
        depot.acceptParcel(weight, hazard, destination);
        depot.put(0, 0);
        depot.writeSack(0);
        return Depots.output(depot);
    }

    private static void outputChar() {
        ParcelDepot depot = new ParcelDepot();
        Check.sentence(49, "The output is initially empty.");
        Check.beyond("index of the empty output", 0, -1, INDEX, depot::outputChar);
        Depots.addWeights(depot, 12);
        depot.put(0, 1);
        Check.beyond("index before anything is written", 0, -1, INDEX, depot::outputChar);
        depot.writeSack(1);
        Check.sentence(49, "Returns a character of the output.");
        Check.equal("the fifth character", ' ', depot.outputChar(4));
        depot.takeOut(0);
        Check.equal("the output after the sack has changed", "s1@0 12>5", Depots.output(depot));
        Check.sentence(49, "Returns the character.");
        Check.equal("the first character", 's', depot.outputChar(0));
        Check.equal("the last character", '5', depot.outputChar(8));
        Check.sentence(49, "`index`: index of a character of the output");
        Check.range("index", 0, 8, INDEX, depot::outputChar);
        ParcelDepot longest = longest();
        longest.writeSack(0);
        Check.range("index of the longest output", 0, 92, INDEX, longest::outputChar);
        Check.sentence(49, "Throws `IndexOutOfBoundsException` if there is no such character");
        Check.beyond("index", 0, 8, INDEX, depot::outputChar);
        depot.writeSack(2);
        Check.beyond("index of a shorter output", 0, 3, INDEX, depot::outputChar);
        Check.refused("an index of the longer output before", INDEX, () -> depot.outputChar(8));
    }
}
