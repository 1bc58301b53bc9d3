/** Runs every test of the project; ends with exit code 1 if one fails. */
final class AllTests {
    private AllTests() {
    }

    public static void main(String[] args) throws Exception {
        ListsTest.run();
        ReadingsTest.run();
        TextsTest.run();
        HistoryTest.run();
        TellsTest.run();
        ModelTest.run();
        RoomTest.run();
        LanguageTest.run(args[0]);
        if (!Check.allPassed()) {
            System.exit(1);
        }
    }
}
