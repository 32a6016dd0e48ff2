import java.nio.file.Path;

/** Runs every test of the project. The argument is the path of the document. */
final class AllTests {
    private AllTests() {
    }

    public static void main(String[] arguments) throws Exception {
        RoadsTest.run();
        ParcelsTest.run();
        GlovesTest.run();
        SacksTest.run();
        CommandsTest.run();
        OutputTest.run();
        UndoTest.run();
        Check.everyPromiseIsChecked();
        FaceTest.run(Path.of(arguments[0]));
        RoomTest.run();
        RandomRunsTest.run();
        if (Check.failures() != 0) {
            System.exit(1);
        }
    }
}
