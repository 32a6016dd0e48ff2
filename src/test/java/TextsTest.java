/** Texts of commands, character by character: what can follow each beginning of a text, told by class and model. */
final class TextsTest {
    // Every command, with each number that has one or two digits once so and once so.
    private static final String[] COMMANDS = {"road 3-4 15", "road 0-1 7", "parcel 12 3 4", "parcel 9 0 5", "glove 3",
        "put 11 2", "put 0 1", "out 10", "out 3", "carry 2 5", "back 07", "back 9"};
    private static final int CHARACTERS = 384;
    // A text of two commands is fed in this many calls at the most, and told in two.
    private static final int CALLS_OF_A_TEXT = 22;

    private ParcelDepot depot = new ParcelDepot();
    private Model model = new Model();
    private int texts = 0;

    private TextsTest() {
    }

    static void run() {
        Check.sentence(0, "Its error position is the index of the first character that cannot continue");
        TextsTest test = new TextsTest();
        for (String command : COMMANDS) {
            for (int length = 0; length <= command.length(); length++) {
                test.goOnFrom(command.substring(0, length));
                test.goOnFrom("out 1;" + command.substring(0, length));
            }
        }
    }

    private void goOnFrom(String beginning) {
        compare(beginning);
        for (char next = 0; next < CHARACTERS; next++) {
            compare(beginning + next);
        }
        compare(beginning + Character.MAX_VALUE);
    }

    private void compare(String text) {
        texts++;
        if (texts * CALLS_OF_A_TEXT > 512) {
            depot = new ParcelDepot();
            model = new Model();
            texts = 1;
        }
        for (int index = 0; index < text.length(); index++) {
            depot.feed(text.charAt(index));
            model.feed(text.charAt(index));
        }
        Check.equal("'" + text + "'", Depots.answer(model::runCommands), Depots.answer(depot::runCommands));
        Check.equal("the error position after it", Depots.answer(model::errorPosition),
                Depots.answer(depot::errorPosition));
    }
}
