/** Runs every test of the project; ends with exit code 1 if one fails. */
final class AllTests {
    private AllTests() {
    }

    public static void main(String[] args) throws Exception {
        ListsTest.run();
        ReadingsTest.run();
        TextsTest.run();
        HistoryTest.run();
        TellsTest.run();
        Place.load(args[1]);
        ListBoundariesTest.run();
        ReadingBoundariesTest.run();
        TextBoundariesTest.run();
        HistoryBoundariesTest.run();
        TellBoundariesTest.run();
        Place.allNamed();
        ModelTest.run();
        RoomTest.run();
        LanguageTest.run(args[0]);
        ReadmeTest.run(args[2]);
        if (!Check.allPassed()) {
            System.exit(1);
        }
    }
}
