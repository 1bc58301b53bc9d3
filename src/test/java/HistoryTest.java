/** Promises 15 to 17: history and snapshot. */
final class HistoryTest {
    private static final int NOT_POSSIBLE = BribedClerks.NOT_POSSIBLE;
    private static final int NONE = BribedClerks.NONE;

    private HistoryTest() {
    }

    static void run() {
        undo();
        undoOfReadings();
        errorsAreNotRecorded();
        keepAndRestore();
        restoreIsAnAct();
        snapshotOfReading();
        allOfReadingComesBack();
    }

    private static void undo() {
        Check.promise("15 undo");
        BribedClerks x = new BribedClerks();
        Check.due("empty", x.undo(), NONE);
        for (int document = 0; document < 6; document++) {
            x.add(0, document, 10);
            Check.due("states", x.count(8), Math.min(4, document + 1));
        }
        for (int left = 3; left >= 0; left--) {
            Check.due("undo", x.undo(), left);
            Check.due("entries", x.list(0, 0), left + 2);
        }
        Check.due("the oldest ones are dropped", x.undo(), NONE);
        Check.due("entries", x.list(0, 0), 2);
        Check.due("document", x.entry(0, 1, 0), 1);
        x.add(0, 9, 99);
        x.want(7);
        Check.due("states", x.count(8), 2);
        Check.due("undo", x.undo(), 1);
        Check.due("want", x.count(2), 3);
        Check.due("the order", x.entry(0, 0, 0), 9);
        Check.due("undo", x.undo(), 0);
        Check.due("the order", x.entry(0, 0, 0), 0);
        Check.due("the text is not undone", x.type('a'), 1);
        Check.due("undo", x.undo(), NONE);
        Check.due("the text is not undone", x.count(9), 1);
    }

    private static void undoOfReadings() {
        Check.promise("15 undo of readings");
        BribedClerks x = Check.office(new int[][] {{0, 1, 30}, {0, 2, 20}, {1, 2, 30}, {1, 1, 10}});
        x.weight(0, 1);
        x.weight(1, 1);
        x.bribe(0, 5);
        x.begin(0, true);
        x.step(1);
        Check.due("caught in all", x.count(7), 1);
        Check.due("look-ups", x.reading(2), 1);
        x.step(1);
        Check.due("seen", x.reading(4), 2);
        Check.due("undo a step", x.undo(), 3);
        Check.due("seen", x.reading(4), 1);
        Check.due("steps", x.reading(0), 1);
        Check.due("next", x.reading(7), 1);
        Check.due("not seen", x.seen(2, 0), NONE);
        Check.due("undo a step", x.undo(), 2);
        Check.due("caught in all", x.count(7), 0);
        Check.due("caught", x.clerk(0, 3), 0);
        Check.due("read", x.clerk(0, 0), 0);
        Check.due("bound told", x.clerk(0, 1), 25);
        Check.due("look-ups", x.reading(2), 0);
        Check.due("step again", x.step(1), 1);
        Check.due("bound told", x.clerk(0, 1), 20);
        Check.due("end", x.end(), 1);
        Check.due("begun", x.count(6), 1);
        Check.due("undo the end", x.undo(), 3);
        Check.due("on again", x.count(5), 1);
        Check.due("seen", x.reading(4), 1);
        x.undo();
        Check.due("undo the beginning", x.undo(), 1);
        Check.due("off", x.count(5), 0);
        Check.due("begun", x.count(6), 0);
        Check.due("reading", x.reading(0), NOT_POSSIBLE);
    }

    private static void errorsAreNotRecorded() {
        Check.promise("15 what is no act");
        BribedClerks x = Check.office(new int[][] {{0, 1, 30}});
        x.undo();
        x.undo();
        x.add(0, 1, 30);
        Check.due("states", x.count(8), 1);
        x.add(0, 1, 30);
        x.add(9, 1, 30);
        x.drop(0, 2);
        x.delete(-1);
        x.bring(1);
        x.weight(0, 0);
        x.want(3);
        x.bribe(0, 0);
        x.begin(3, false);
        x.begin(0, false);
        x.step(1);
        x.end();
        x.type('x');
        x.perform();
        x.clearText();
        x.keep();
        x.trial(0, false, 0);
        x.cheapest();
        Check.due("states", x.count(8), 1);
    }

    private static void keepAndRestore() {
        Check.promise("16 keep, 17 restore");
        BribedClerks x = Check.office(new int[][] {{0, 1, 30}, {1, 2, 20}, {5, 1, 7}});
        Check.due("no snapshot", x.restore(), NONE);
        Check.due("no snapshot, nothing recorded", x.count(8), 3);
        Check.due("keep", x.keep(), 3);
        Check.due("keep is no act", x.count(8), 3);
        x.delete(1);
        x.drop(0, 1);
        x.want(9);
        x.weight(3, 3);
        x.bribe(3, 33);
        Check.due("restore", x.restore(), 3);
        Check.due("not deleted", x.count(3), 0);
        Check.due("entry", x.entry(0, 0, 1), 30);
        Check.due("want", x.count(2), 3);
        Check.due("weight", x.list(3, 1), 0);
        Check.due("bribe", x.list(3, 2), 0);
        x.add(4, 4, 4);
        Check.due("the snapshot stays", x.restore(), 3);
        x.add(4, 4, 4);
        Check.due("keep in its place", x.keep(), 4);
        x.drop(4, 4);
        Check.due("restore", x.restore(), 4);
        Check.due("entry", x.entry(4, 0, 0), 4);
    }

    private static void restoreIsAnAct() {
        Check.promise("17 restore is an act");
        BribedClerks x = new BribedClerks();
        Check.due("keep", x.keep(), 0);
        x.add(0, 0, 5);
        Check.due("restore", x.restore(), 0);
        Check.due("states", x.count(8), 2);
        Check.due("undo", x.undo(), 1);
        Check.due("entries", x.count(0), 1);
        Check.due("undo", x.undo(), 0);
        Check.due("entries", x.count(0), 0);
        Check.due("undo leaves the snapshot", x.restore(), 0);
        Check.due("the same state too", x.restore(), 0);
        Check.due("states", x.count(8), 2);
        Check.typeText(x, "abc");
        Check.due("restore", x.restore(), 0);
        Check.due("the text stays", x.count(9), 3);
    }

    private static void allOfReadingComesBack() {
        Check.promise("15 undo, 17 restore of all of a reading");
        BribedClerks x = Check.office(new int[][] {
            {0, 7, 95}, {0, 1, 90}, {0, 2, 80}, {0, 3, 70}, {0, 4, 60}, {0, 5, 50},
            {1, 3, 99}, {1, 2, 98}, {1, 5, 97}, {2, 4, 30}, {2, 1, 20}});
        for (int list = 0; list < 3; list++) {
            x.weight(list, list + 1);
        }
        x.bribe(1, 90);
        x.delete(1);
        x.begin(2, true);
        x.step(3);
        int[] before = answers(x);
        x.keep();
        for (int round = 0; round < 2; round++) {
            x.end();
            x.begin(0, false);
            x.step(9);
            int back = round == 0 ? x.restore() + x.count(8) : x.undo() + x.undo() + x.undo();
            Check.due("goes back", back, round == 0 ? 15 : 6);
            int[] after = answers(x);
            for (int i = 0; i < before.length; i++) {
                Check.due("answer " + i, after[i], before[i]);
            }
        }
        Check.due("goes on by the same way", x.step(1), 1);
        Check.due("and looks up", x.reading(2), 6);
    }

    private static int[] answers(BribedClerks x) {
        int[] answers = new int[13 + 15 + 40 + 3];
        int filled = 0;
        for (int what = 0; what < 13; what++) {
            answers[filled++] = x.reading(what);
        }
        for (int what = 0; what < 5; what++) {
            for (int list = 0; list < 3; list++) {
                answers[filled++] = x.clerk(list, what);
            }
            for (int document = 0; document < 8; document++) {
                answers[filled++] = x.seen(document, what);
            }
        }
        for (int place = 0; place < 3; place++) {
            answers[filled++] = x.told(place);
        }
        return answers;
    }

    private static void snapshotOfReading() {
        Check.promise("17 restore of a reading");
        BribedClerks x = Check.office(new int[][] {{0, 1, 30}, {0, 2, 20}, {0, 3, 10}});
        x.weight(0, 2);
        x.bribe(0, 1);
        x.begin(0, false);
        x.step(1);
        Check.due("keep while reading", x.keep(), 3);
        x.step(2);
        x.end();
        x.drop(0, 3);
        Check.due("restore", x.restore(), 3);
        Check.due("on", x.count(5), 1);
        Check.due("steps", x.reading(0), 1);
        Check.due("caught", x.count(7), 1);
        Check.due("low", x.seen(1, 0), 60);
        Check.due("not seen", x.seen(2, 0), NONE);
        Check.due("goes on", x.step(240), 2);
        x.restore();
        Check.due("the snapshot did not go on", x.reading(0), 1);
        Check.due("undo goes back into a later reading", x.undo(), 3);
        Check.due("steps", x.reading(0), 3);
        x.end();
        x.begin(0, true);
        Check.due("begun", x.count(6), 2);
        x.restore();
        Check.due("begun", x.count(6), 1);
    }
}
