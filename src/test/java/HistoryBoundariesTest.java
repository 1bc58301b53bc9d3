/** Each boundary that HISTORY, ERRORS and the promises 15 to 17 name, a test each. */
final class HistoryBoundariesTest {
    private static final int UNKNOWN = BribedClerks.UNKNOWN;
    private static final int BAD_VALUE = BribedClerks.BAD_VALUE;
    private static final int FULL = BribedClerks.FULL;
    private static final int NOT_POSSIBLE = BribedClerks.NOT_POSSIBLE;
    private static final int NONE = BribedClerks.NONE;

    private HistoryBoundariesTest() {
    }

    static void run() {
        runHistory();
        runState();
        runErrors();
        runConstants();
        runUndo();
        runKeep();
        runRestore();
        lastCall();
    }

    private static BribedClerks office() {
        BribedClerks x = Check.office(new int[][] {
            {0, 1, 90}, {0, 2, 80}, {0, 3, 70}, {1, 3, 60}, {1, 2, 50}, {1, 4, 10}, {2, 5, 1}});
        x.weight(0, 1);
        x.weight(1, 2);
        x.bribe(0, 20);
        x.delete(4);
        x.want(2);
        return x;
    }

    // ---- HISTORY

    private static void runHistory() {
        fourStates();
        oldestIsDropped();
        undoTakesLatest();
        actsAreRecorded();
        othersAreNotRecorded();
        oneSnapshot();
    }

    private static void fourStates() {
        Place.in("HISTORY", "A history of at most 4 states is kept");
        BribedClerks x = new BribedClerks();
        int[] due = {1, 2, 3, 4, 4, 4};
        Check.due("of a new office", x.count(8), 0);
        for (int document = 0; document < due.length; document++) {
            x.add(0, document, 9);
            Check.due("behind " + (document + 1) + " acts", x.count(8), due[document]);
        }
        Check.row("undo", new int[] {x.undo(), x.undo(), x.undo(), x.undo(), x.undo()}, 3, 2, 1, 0, NONE);
    }

    private static void oldestIsDropped() {
        Place.in("HISTORY", "when one more is recorded, the oldest one is dropped");
        for (int acts = 4; acts <= 10; acts++) {
            BribedClerks x = new BribedClerks();
            for (int document = 0; document < acts; document++) {
                x.add(0, document, 9);
            }
            for (int undone = 1; undone <= 4; undone++) {
                x.undo();
                Check.due("entries", x.count(0), acts - undone);
                Check.due("the last one", x.list(0, 0), acts - undone);
            }
            Check.due("nothing older is kept", x.undo(), NONE);
            Check.due("entries", x.count(0), acts - 4);
        }
    }

    private static void undoTakesLatest() {
        Place.in("HISTORY", "undo() removes and restores the latest one");
        BribedClerks x = new BribedClerks();
        x.want(4);
        x.want(5);
        x.want(6);
        x.undo();
        Check.due("the latest one", x.count(2), 5);
        x.want(7);
        x.undo();
        Check.due("recorded over what was removed", x.count(2), 5);
        x.undo();
        Check.due("the one ahead of it", x.count(2), 4);
        x.undo();
        Check.due("the first one", x.count(2), 3);
    }

    /** Does an act, which has to be recorded, and undoes it. */
    private static void dueRecorded(BribedClerks x, String act) {
        Answers before = Answers.of(x);
        int states = x.count(8);
        String[] parts = act.split(" ");
        int[] numbers = new int[3];
        for (int i = 1; i < parts.length; i++) {
            numbers[i - 1] = Integer.parseInt(parts[i]);
        }
        int answer = switch (parts[0]) {
            case "add" -> x.add(numbers[0], numbers[1], numbers[2]);
            case "drop" -> x.drop(numbers[0], numbers[1]);
            case "delete" -> x.delete(numbers[0]);
            case "bring" -> x.bring(numbers[0]);
            case "weight" -> x.weight(numbers[0], numbers[1]);
            case "want" -> x.want(numbers[0]);
            case "bribe" -> x.bribe(numbers[0], numbers[1]);
            case "begin" -> x.begin(numbers[0], numbers[1] == 1);
            case "step" -> x.step(numbers[0]);
            case "end" -> x.end();
            default -> x.restore();
        };
        Check.holds(act + " is done", answer >= 0);
        Check.due(act + " is recorded", x.count(8), states + 1);
        Check.due(act + " is undone", x.undo(), states);
        before.dueAgain(act, Answers.of(x));
    }

    private static void actsAreRecorded() {
        int[] promises = {2, 3, 4, 5, 6, 7, 8, 9};
        String[] acts = {"add 0 5 75", "drop 0 1", "delete 1", "bring 4", "weight 0 9", "want 1",
            "bribe 1 500", "begin 2 1"};
        for (int i = 0; i < acts.length; i++) {
            Place.in("Promise " + promises[i], "This is an act");
            BribedClerks x = office();
            x.undo();
            dueRecorded(x, acts[i]);
        }
        Place.in("Promise 10", "This is an act");
        BribedClerks x = office();
        x.begin(0, true);
        x.undo();
        x.begin(0, true);
        x.undo();
        x.undo();
        x.begin(0, true);
        dueRecorded(x, "step 2");
        Place.in("Promise 11", "This is an act");
        x = office();
        x.undo();
        x.undo();
        x.begin(1, true);
        x.step(1);
        x.undo();
        dueRecorded(x, "end");
        Place.in("Promise 17", "This is an act");
        x = office();
        x.keep();
        x.undo();
        x.undo();
        dueRecorded(x, "restore");
    }

    private static void othersAreNotRecorded() {
        Place.in("HISTORY", "that is described as an act, and returns no error and not NONE");
        BribedClerks x = office();
        Check.due("undo", x.undo(), 3);
        x.type('a');
        x.clearText();
        x.keep();
        x.trial(0, true, 0);
        x.cheapest();
        Check.due("these are no acts", x.count(8), 3);
        Check.each("errors", UNKNOWN, x.add(6, 0, 1), x.drop(0, 9), x.delete(60), x.bring(-1));
        Check.each("errors", BAD_VALUE, x.weight(0, 10), x.want(0), x.bribe(0, 501), x.begin(3, true));
        Check.each("errors", NOT_POSSIBLE, x.step(1), x.end());
        Check.each("NONE", NONE, x.add(0, 1, 90), x.delete(4), x.bring(1), x.weight(0, 1), x.want(3),
            x.bribe(0, 20));
        Check.due("a text with a fault", x.perform(), -100);
        Check.due("these are not recorded", x.count(8), 3);
        Check.due("the latest act is still the delete", x.undo(), 2);
        Check.due("not deleted", x.document(4, 0), 0);
    }

    private static void oneSnapshot() {
        Place.in("HISTORY", "There is one snapshot, empty at first");
        BribedClerks x = new BribedClerks();
        Check.due("empty", x.restore(), NONE);
        x.keep();
        Check.due("of an empty office", x.restore(), 0);
        x.add(0, 1, 5);
        x.keep();
        x.add(0, 2, 5);
        x.add(0, 3, 5);
        Check.due("the newer one alone", x.restore(), 1);
        x.add(0, 4, 5);
        Check.due("the same one", x.restore(), 1);
    }

    // ---- HISTORY: what a state is

    private static void runState() {
        stateIsEverything();
        stateGoesOnAsItWould();
        stateIsNotText();
        stateIsNotHistory();
        stateIsNotSnapshot();
        countsOfReadings();
    }

    private static void stateIsEverything() {
        Place.in("HISTORY", "A state is everything");
        BribedClerks x = office();
        x.begin(1, true);
        x.step(2);
        x.keep();
        Answers kept = Answers.of(x);
        x.end();
        x.drop(0, 1);
        x.add(5, 7, 500);
        x.weight(5, 9);
        x.bribe(5, 7);
        x.bring(4);
        x.want(10);
        x.begin(2, false);
        x.step(3);
        x.restore();
        kept.dueAgain("restored", Answers.of(x));
    }

    private static void stateGoesOnAsItWould() {
        Place.in("HISTORY", "A state is everything but the text");
        for (int way = 0; way < 3; way++) {
            BribedClerks x = Check.office(new int[][] {{0, 1, 90}, {0, 2, 80}, {0, 3, 70}, {0, 4, 60},
                {1, 1, 50}, {1, 5, 40}, {1, 6, 30}, {3, 7, 95}, {3, 2, 10}});
            x.weight(0, 1);
            x.weight(1, 2);
            x.weight(3, 1);
            x.delete(1);
            x.want(10);
            x.begin(way, true);
            x.step(3);
            x.keep();
            x.step(240);
            Answers whole = Answers.of(x);
            x.end();
            x.begin((way + 1) % 3, false);
            x.step(1);
            x.restore();
            Check.due("steps, by the way " + way, x.reading(0), 3);
            x.step(240);
            whole.dueAgain("to the end, by the way " + way, Answers.of(x));
        }
    }

    private static void stateIsNotText() {
        Place.in("HISTORY", "everything but the text");
        BribedClerks x = new BribedClerks();
        x.keep();
        x.want(5);
        Check.typeText(x, "want 7");
        x.undo();
        Check.due("undo leaves it", x.count(9), 6);
        Check.due("perform", x.perform(), 3);
        x.type('?');
        x.restore();
        Check.due("restore leaves it", x.count(9), 7);
        Check.due("its fault", x.perform(), -106);
        x.clearText();
        x.undo();
        Check.due("undo does not bring it back", x.count(9), 0);
    }

    private static void stateIsNotHistory() {
        Place.in("HISTORY", "but the text, the history");
        BribedClerks x = new BribedClerks();
        x.want(4);
        x.keep();
        x.want(5);
        x.want(6);
        Check.due("restore", x.restore(), 0);
        Check.due("it is recorded behind the others", x.count(8), 4);
        Check.due("k", x.count(2), 4);
        x.undo();
        Check.due("ahead of the restore", x.count(2), 6);
        x.undo();
        Check.due("ahead of that", x.count(2), 5);
        Check.due("states", x.count(8), 2);
    }

    private static void stateIsNotSnapshot() {
        Place.in("HISTORY", "the history and the snapshot");
        BribedClerks x = new BribedClerks();
        x.want(4);
        x.keep();
        x.want(5);
        x.undo();
        x.undo();
        Check.due("undone behind the snapshot", x.count(2), 3);
        Check.due("restore", x.restore(), 0);
        Check.due("the snapshot was not undone", x.count(2), 4);
        x.want(8);
        x.keep();
        x.undo();
        x.restore();
        Check.due("nor is the next one", x.count(2), 8);
    }

    private static void countsOfReadings() {
        Place.in("HISTORY", "A state is everything but");
        BribedClerks x = office();
        x.begin(0, false);
        Check.row("begun and caught", new int[] {x.count(6), x.count(7)}, 1, 0);
        x.step(1);
        Check.row("begun and caught", new int[] {x.count(6), x.count(7)}, 1, 1);
        x.keep();
        x.end();
        x.begin(0, false);
        x.step(1);
        Check.row("begun and caught", new int[] {x.count(6), x.count(7)}, 2, 2);
        x.undo();
        Check.row("behind an undo", new int[] {x.count(6), x.count(7)}, 2, 1);
        x.undo();
        Check.row("behind another", new int[] {x.count(6), x.count(7)}, 1, 1);
        x.begin(0, false);
        x.step(1);
        x.restore();
        Check.row("behind a restore", new int[] {x.count(6), x.count(7)}, 1, 1);
    }

    // ---- ERRORS

    private static void runErrors() {
        orderOfChecks();
        noneComesLast();
        nothingChangesOutside();
        nothingChangesInReading();
        nothingChangesWhenOver();
        lockedWhileReading();
        lockedWhenOver();
    }

    private static void orderOfChecks() {
        Place.in("ERRORS", "the order of the @return line is the order of the checks");
        BribedClerks x = office();
        Check.each("no reading is on", UNKNOWN, x.clerk(6, 5), x.clerk(-1, 0), x.seen(60, 5), x.seen(-1, 0));
        Check.each("no reading is on", BAD_VALUE,
            x.clerk(5, 5), x.seen(59, -1), x.told(-1), x.reading(13), x.step(0));
        Check.each("two of the telling calls", UNKNOWN,
            x.list(6, 5), x.entry(6, -1, 2), x.document(60, 4));
        x.begin(0, false);
        Check.each("a reading is on", UNKNOWN, x.add(6, 0, 0), x.add(0, 60, 0), x.drop(1, 1), x.delete(60),
            x.bring(60), x.weight(6, 10), x.bribe(6, 501));
        Check.each("a reading is on", BAD_VALUE,
            x.add(0, 1, 0), x.weight(0, 10), x.want(0), x.bribe(0, 501), x.begin(3, false), x.step(241));
        Check.each("a reading is on", NOT_POSSIBLE, x.add(0, 1, 90), x.delete(4), x.bring(1),
            x.weight(0, 1), x.want(2), x.bribe(0, 20));
        BribedClerks none = new BribedClerks();
        Check.each("no question", BAD_VALUE, none.begin(3, true), none.trial(3, true, 0),
            none.trial(0, true, 4), none.begin(-1, false));
        Check.each("no question", NOT_POSSIBLE, none.begin(0, true), none.trial(0, true, 0), none.cheapest());
    }

    private static void noneComesLast() {
        Place.in("ERRORS", "it is returned only if no error applies");
        BribedClerks x = office();
        Check.due("an entry far off, but what is wrong", x.entry(0, 9, 2), BAD_VALUE);
        Check.due("a list that is not in the question, no reading", x.clerk(5, 0), NOT_POSSIBLE);
        Check.due("a document that is not seen, no reading", x.seen(1, 0), NOT_POSSIBLE);
        Check.due("a place far off, no reading", x.told(9), NOT_POSSIBLE);
        x.begin(0, false);
        Check.due("a list that is not in the question, but what is wrong", x.clerk(5, 5), BAD_VALUE);
        Check.due("a document that is not seen, but what is wrong", x.seen(1, 5), BAD_VALUE);
        Check.each("so already, in a reading", NOT_POSSIBLE,
            x.add(0, 1, 90), x.delete(4), x.bring(1), x.weight(0, 1), x.want(2), x.bribe(0, 20));
        x.step(240);
        Check.due("over, but too many steps", x.step(241), BAD_VALUE);
        Check.due("over", x.step(240), NONE);
    }

    private static void nothingChangesOutside() {
        Place.in("ERRORS", "A call that returns an error or NONE changes nothing");
        BribedClerks x = office();
        Answers before = Answers.of(x);
        Check.each("UNKNOWN", UNKNOWN, x.add(6, 1, 5), x.add(0, 60, 5), x.drop(0, 5), x.drop(6, 1),
            x.delete(60), x.bring(-1), x.weight(-1, 5), x.bribe(6, 5));
        Check.each("BAD_VALUE", BAD_VALUE, x.add(0, 1, 0), x.add(0, 5, 1000), x.weight(0, 10),
            x.want(0), x.bribe(0, -1), x.begin(3, true), x.step(0));
        Check.each("NOT_POSSIBLE", NOT_POSSIBLE, x.step(1), x.end());
        Check.each("NONE", NONE, x.add(0, 1, 90), x.delete(4), x.bring(1), x.weight(0, 1), x.want(2),
            x.bribe(0, 20), x.restore());
        before.dueAgain("behind refused calls", Answers.of(x));
        Check.due("the history too", x.undo(), 3);
        Check.due("the want is undone", x.count(2), 3);
        x.undo();
        Check.due("the delete is undone", x.document(4, 0), 0);
    }

    private static void nothingChangesInReading() {
        Place.in("ERRORS", "A call that returns an error");
        BribedClerks x = office();
        x.begin(0, true);
        x.step(1);
        Answers before = Answers.of(x);
        Check.each("NOT_POSSIBLE", NOT_POSSIBLE, x.add(0, 7, 5), x.add(0, 1, 5), x.drop(0, 1), x.delete(1),
            x.bring(4), x.weight(0, 5), x.want(5), x.bribe(0, 5), x.begin(1, false));
        Check.each("BAD_VALUE", BAD_VALUE, x.step(0), x.step(241), x.step(-1), x.begin(3, true));
        before.dueAgain("behind refused calls", Answers.of(x));
        Check.due("the history too", x.undo(), 3);
        Check.due("the step is undone", x.reading(0), 0);
    }

    private static void nothingChangesWhenOver() {
        Place.in("ERRORS", "or NONE changes nothing");
        BribedClerks x = office();
        x.begin(0, false);
        x.step(240);
        Answers before = Answers.of(x);
        Check.each("NONE", NONE, x.step(1), x.step(240), x.restore());
        before.dueAgain("behind an over reading's steps", Answers.of(x));
        x.undo();
        Check.due("the steps are undone", x.reading(0), 0);
    }

    private static void dueLocked(BribedClerks x) {
        Check.each("lists", NOT_POSSIBLE, x.add(5, 9, 5), x.add(0, 1, 5), x.drop(0, 1), x.drop(2, 5));
        Check.each("documents", NOT_POSSIBLE, x.delete(59), x.delete(1), x.bring(4));
        Check.each("the question", NOT_POSSIBLE, x.weight(5, 1), x.weight(0, 0), x.want(1),
            x.bribe(5, 1), x.bribe(0, 0));
        Check.due("no other reading", x.begin(0, false), NOT_POSSIBLE);
    }

    private static void lockedWhileReading() {
        Place.in("ERRORS", "As long as a reading is on");
        BribedClerks x = office();
        x.begin(0, false);
        dueLocked(x);
        x.step(1);
        dueLocked(x);
        x.end();
        Check.due("after it", x.add(5, 9, 5), 0);
        Check.due("after it", x.want(1), 2);
        x.undo();
        x.undo();
        x.undo();
        Check.due("the reading is on again", x.count(5), 1);
        dueLocked(x);
    }

    private static void lockedWhenOver() {
        Place.in("ERRORS", "(it may be over, but was not ended)");
        BribedClerks x = office();
        x.begin(0, false);
        x.step(240);
        Check.due("over", x.reading(6), 1);
        dueLocked(x);
        x.keep();
        x.end();
        Check.due("after it", x.delete(1), 1);
        x.restore();
        Check.due("over, and on again", x.reading(6), 1);
        dueLocked(x);
    }

    private static void runConstants() {
        BribedClerks x = office();
        Place.in("ERRORS", "`UNKNOWN = -1`: There is no such list or document");
        Check.due("UNKNOWN", BribedClerks.UNKNOWN, -1);
        Check.each("list, document, not in the list", -1, x.list(6, 0), x.document(60, 0), x.drop(0, 5));
        Place.in("ERRORS", "`BAD_VALUE = -2`: Another argument is out of range");
        Check.due("BAD_VALUE", BribedClerks.BAD_VALUE, -2);
        Check.each("score, what, k", -2, x.add(0, 1, 1000), x.list(0, 5), x.want(11));
        Place.in("ERRORS", "`FULL = -3`: There is no more room");
        Check.due("FULL", BribedClerks.FULL, -3);
        for (int i = 0; i < 40; i++) {
            x.add(3, i, 5);
            x.type('a');
        }
        Check.each("list, text", FULL, x.add(3, 40, 5), x.type('a'));
        Place.in("ERRORS", "`NOT_POSSIBLE = -4`: This is not possible");
        Check.due("NOT_POSSIBLE", BribedClerks.NOT_POSSIBLE, -4);
        Check.each("no reading", -4, x.end(), x.step(1), x.told(0));
        Place.in("ERRORS", "`NONE = -5`: There is no such thing");
        Check.due("NONE", BribedClerks.NONE, -5);
        Check.each("entry, wanted, snapshot", -5, x.entry(0, 3, 0), x.wanted(2), x.restore());
        noneIsNoError();
    }

    private static void noneIsNoError() {
        Place.in("ERRORS", "NONE is no error");
        BribedClerks x = office();
        x.begin(0, false);
        x.step(240);
        Check.due("a reading that is over has no next list", x.reading(7), NONE);
        Check.due("document 5 has no place", x.document(5, 3), NONE);
        Place.in("ERRORS", "not an error");
        Check.due("a text that tells what is so already has no fault", performOf("want 3"), NONE);
        Check.due("a text with a fault is another thing", performOf("want ?"), -105);
    }

    private static int performOf(String text) {
        BribedClerks x = new BribedClerks();
        Check.typeText(x, text);
        return x.perform();
    }

    // ---- promises 15 to 17

    private static void runUndo() {
        undoRestores();
        undoLeft();
        undoNone();
    }

    private static void undoRestores() {
        Place.in("Promise 15", "Removes and restores the latest state of the history");
        BribedClerks x = office();
        x.begin(0, true);
        x.step(1);
        x.step(1);
        Check.due("undo", x.undo(), 3);
        Check.due("one step is left", x.reading(0), 1);
        Check.due("undo", x.undo(), 2);
        Check.row("as it began", new int[] {x.reading(0), x.reading(2), x.reading(4), x.clerk(0, 0),
            x.clerk(0, 1), x.clerk(0, 3), x.count(7)}, 0, 0, 0, 0, 70, 0, 0);
        Check.due("not seen", x.seen(1, 0), NONE);
    }

    private static void undoLeft() {
        Place.in("Promise 15", "Returns the number of states that are left");
        BribedClerks x = new BribedClerks();
        x.want(4);
        Check.due("of one", x.undo(), 0);
        x.want(4);
        x.want(5);
        Check.due("of two", x.undo(), 1);
        for (int k = 6; k < 11; k++) {
            x.want(k);
        }
        Check.due("of four", x.undo(), 3);
        Check.due("of three", x.undo(), 2);
    }

    private static void undoNone() {
        Place.in("Promise 15", "NONE if the history is empty");
        BribedClerks x = new BribedClerks();
        Check.each("of a new office", NONE, x.undo(), x.undo());
        x.want(4);
        Check.due("one", x.undo(), 0);
        Check.each("of none left", NONE, x.undo(), x.undo());
        Check.due("k", x.count(2), 3);
        x.want(5);
        Check.due("one again", x.undo(), 0);
    }

    private static void runKeep() {
        keepInPlace();
        keepEntries();
    }

    private static void keepInPlace() {
        Place.in("Promise 16", "Takes a snapshot of the state, in place of the one that was");
        BribedClerks x = new BribedClerks();
        int[] ks = {4, 9, 1};
        for (int k : ks) {
            x.want(k);
            x.keep();
            x.want(k == 5 ? 6 : 5);
            x.restore();
            Check.due("the newest one", x.count(2), k);
        }
        Check.due("keep is no act", x.count(8), 4);
        x.keep();
        x.undo();
        Check.due("undo goes behind the restore", x.count(2), 5);
    }

    private static void keepEntries() {
        Place.in("Promise 16", "Returns the number of entries in all lists");
        BribedClerks x = new BribedClerks();
        Check.due("of an empty office", x.keep(), 0);
        for (int list = 0; list < 6; list++) {
            for (int document = 0; document < 40; document++) {
                x.add(list, document, 5);
            }
            Check.due("of full lists", x.keep(), 40 * (list + 1));
        }
        x.delete(0);
        Check.due("deleted ones too", x.keep(), 240);
        x.drop(5, 39);
        Check.due("one less", x.keep(), 239);
    }

    private static void runRestore() {
        restoreStays();
        restoreEntries();
        restoreNone();
    }

    private static void restoreStays() {
        Place.in("Promise 17", "Restores the state of the snapshot, which stays");
        BribedClerks x = office();
        x.begin(0, false);
        x.keep();
        Answers kept = Answers.of(x);
        for (int round = 0; round < 2; round++) {
            x.step(round + 1);
            x.end();
            x.restore();
            Check.due("no step is done", x.reading(0), 0);
            Check.due("on", x.count(5), 1);
        }
        x.undo();
        x.restore();
        kept.dueAgain("restored again", Answers.of(x));
    }

    private static void restoreEntries() {
        Place.in("Promise 17", "Returns the number of entries in all lists then");
        BribedClerks x = new BribedClerks();
        x.keep();
        x.add(0, 1, 5);
        x.add(5, 1, 5);
        Check.due("of an empty office", x.restore(), 0);
        x.undo();
        x.keep();
        x.drop(0, 1);
        Check.due("of two", x.restore(), 2);
        Check.due("the same state", x.restore(), 2);
    }

    private static void restoreNone() {
        Place.in("Promise 17", "NONE if there is no snapshot");
        BribedClerks x = office();
        Check.each("none", NONE, x.restore(), x.restore());
        Check.due("nothing is recorded", x.undo(), 3);
        x.begin(0, false);
        Check.due("none, in a reading", x.restore(), NONE);
        x.keep();
        Check.due("one", x.restore(), 7);
    }

    // ---- the first words of the document

    private static void lastCall() {
        Place.in("What it is", "An object is used for at most 512 calls after it has been made");
        BribedClerks x = new BribedClerks();
        for (int call = 1; call <= 510; call++) {
            Check.due("call " + call, x.type('a'), call <= 40 ? call : FULL);
        }
        Check.due("call 511", x.add(0, 1, 5), 0);
        Check.due("call 512", x.count(0), 1);
    }
}
