import java.nio.file.Path;

/** Runs every test of the project. The arguments are the paths of the document, the class and README.md. */
final class AllTests {
    private AllTests() {
    }

    public static void main(String[] arguments) throws Exception {
        Sentences.read(Path.of(arguments[0]));
        Check.runs("TermsTest", TermsTest::run);
        Check.runs("RulesTest", RulesTest::run);
        Check.runs("RoadEdgesTest", RoadEdgesTest::run);
        Check.runs("ParcelEdgesTest", ParcelEdgesTest::run);
        Check.runs("GloveEdgesTest", GloveEdgesTest::run);
        Check.runs("SackEdgesTest", SackEdgesTest::run);
        Check.runs("CommandEdgesTest", CommandEdgesTest::run);
        Check.runs("UndoEdgesTest", UndoEdgesTest::run);
        Sentences.everySentenceIsChecked();
        Check.runs("RoadsTest", RoadsTest::run);
        Check.runs("ParcelsTest", ParcelsTest::run);
        Check.runs("GlovesTest", GlovesTest::run);
        Check.runs("SacksTest", SacksTest::run);
        Check.runs("CommandsTest", CommandsTest::run);
        Check.runs("OutputTest", OutputTest::run);
        Check.runs("UndoTest", UndoTest::run);
        Check.everyPromiseIsChecked();
        FaceTest.run(Path.of(arguments[0]));
        LanguageTest.run(Path.of(arguments[1]));
        RoomTest.run();
        ReadmeTest.run(Path.of(arguments[2]));
        Check.runs("TextsTest", TextsTest::run);
        RandomRunsTest.run();
        if (Check.failures() != 0) {
            System.exit(1);
        }
    }
}
