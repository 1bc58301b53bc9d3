/** Promises 9 to 11 and 22 to 27: readings and what is told of them. */
final class ReadingsTest {
    private static final int UNKNOWN = BribedClerks.UNKNOWN;
    private static final int BAD_VALUE = BribedClerks.BAD_VALUE;
    private static final int NOT_POSSIBLE = BribedClerks.NOT_POSSIBLE;
    private static final int NONE = BribedClerks.NONE;

    private ReadingsTest() {
    }

    static void run() {
        wrongCalls();
        wrongQueries();
        overAtOnce();
        inTurn();
        inTurnLookingUp();
        byBounds();
        byRest();
        turnGoesRound();
        bribedClerksEndTooEarly();
        caughtOnce();
        smallBribeOfSmallScore();
        deletedIsWasted();
        tiesOfHighValues();
        boundsMustBeLess();
        frontOfSameLows();
        fewerThanWanted();
        longestReading();
        trialsLeaveAllAlone();
        cheapest();
        endAndBeginAgain();
    }

    /** Three lists of the question, one of them empty, and one list that does not belong to it. */
    private static BribedClerks smallOffice() {
        BribedClerks x = Check.office(new int[][] {
            {0, 1, 50}, {0, 2, 40}, {0, 3, 30},
            {1, 2, 90}, {1, 4, 80}, {1, 1, 10},
            {3, 9, 999}});
        x.weight(0, 2);
        x.weight(1, 1);
        x.weight(2, 3);
        x.want(1);
        return x;
    }

    private static void wrongCalls() {
        Check.promise("9 to 11, wrong calls");
        BribedClerks x = new BribedClerks();
        int[] ways = {-1, 3, Integer.MIN_VALUE, Integer.MAX_VALUE};
        for (int way : ways) {
            Check.due("begin " + way, x.begin(way, true), BAD_VALUE);
        }
        Check.due("no question", x.begin(2, true), NOT_POSSIBLE);
        int[] steps = {0, 241, -1, Integer.MIN_VALUE, Integer.MAX_VALUE};
        for (int number : steps) {
            Check.due("step " + number, x.step(number), BAD_VALUE);
        }
        Check.due("not on", x.step(1), NOT_POSSIBLE);
        Check.due("not on", x.step(240), NOT_POSSIBLE);
        Check.due("not on", x.end(), NOT_POSSIBLE);
        Check.due("nothing recorded", x.count(8), 0);
        x = smallOffice();
        Check.due("begin", x.begin(1, true), 0);
        Check.due("begin twice", x.begin(1, true), NOT_POSSIBLE);
        Check.due("begin twice, bad", x.begin(3, true), BAD_VALUE);
        Check.due("begun", x.count(6), 1);
        Check.due("step 0", x.step(0), BAD_VALUE);
        Check.due("to the end", x.step(240), 2);
        Check.due("over", x.step(1), NONE);
        Check.due("over, bad", x.step(241), BAD_VALUE);
    }

    private static void wrongQueries() {
        Check.promise("22 to 27, wrong calls");
        BribedClerks x = smallOffice();
        for (int round = 0; round < 2; round++) {
            int off = round == 0 ? NOT_POSSIBLE : 0;
            Check.due("clerk list -1", x.clerk(-1, 5), UNKNOWN);
            Check.due("clerk list 6", x.clerk(6, 0), UNKNOWN);
            Check.due("clerk what -1", x.clerk(0, -1), BAD_VALUE);
            Check.due("clerk what 5", x.clerk(3, 5), BAD_VALUE);
            Check.due("clerk", x.clerk(0, 0), off);
            Check.due("clerk, not asked", x.clerk(3, 0), round == 0 ? NOT_POSSIBLE : NONE);
            Check.due("seen document -1", x.seen(-1, 5), UNKNOWN);
            Check.due("seen document 60", x.seen(60, 0), UNKNOWN);
            Check.due("seen what -1", x.seen(1, -1), BAD_VALUE);
            Check.due("seen what 5", x.seen(1, 5), BAD_VALUE);
            Check.due("seen", x.seen(1, 0), round == 0 ? NOT_POSSIBLE : NONE);
            Check.due("told -1", x.told(-1), BAD_VALUE);
            Check.due("told 0", x.told(0), round == 0 ? NOT_POSSIBLE : NONE);
            Check.due("told far", x.told(Integer.MAX_VALUE), round == 0 ? NOT_POSSIBLE : NONE);
            Check.due("reading -1", x.reading(-1), BAD_VALUE);
            Check.due("reading 13", x.reading(13), BAD_VALUE);
            Check.due("reading", x.reading(0), off);
            Check.due("trial way -1", x.trial(-1, true, 0), BAD_VALUE);
            Check.due("trial way 3", x.trial(3, true, 0), BAD_VALUE);
            Check.due("trial what -1", x.trial(0, true, -1), BAD_VALUE);
            Check.due("trial what 4", x.trial(0, true, 4), BAD_VALUE);
            x.begin(0, false);
        }
        BribedClerks empty = new BribedClerks();
        Check.due("trial, bad", empty.trial(3, true, 0), BAD_VALUE);
        Check.due("trial", empty.trial(2, true, 3), NOT_POSSIBLE);
        Check.due("cheapest", empty.cheapest(), NOT_POSSIBLE);
    }

    private static void overAtOnce() {
        Check.promise("9 begin, over at once");
        BribedClerks x = Check.office(new int[][] {{1, 1, 5}});
        x.weight(0, 4);
        Check.due("begin", x.begin(0, true), 1);
        Check.row("reading", Answers.reading(x), 0, 0, 0, 0, 0, 0, 1, NONE, 0, 0, 0, 0, 0);
        Check.row("clerk", Answers.clerk(x, 0), 0, 0, 0, 0, 0);
        Check.due("told", x.told(0), NONE);
        Check.due("step", x.step(1), NONE);
        Check.due("trial", x.trial(0, true, 0), 0);
        Check.due("cheapest", x.cheapest(), 0);
        Check.due("end", x.end(), 0);
        Check.due("begun", x.count(6), 1);
    }

    private static void inTurn() {
        Check.promise("9, 10, 22 to 25, way 0");
        BribedClerks x = smallOffice();
        Check.due("begin", x.begin(0, false), 0);
        Check.row("reading", Answers.reading(x), 0, 0, 0, 0, 0, 0, 0, 0, 190, 0, 0, 0, 0);
        Check.row("clerk 0", Answers.clerk(x, 0), 0, 50, 50, 0, 0);
        Check.row("clerk 2", Answers.clerk(x, 2), 0, 0, 0, 0, 0);
        Check.due("step", x.step(1), 1);
        Check.row("reading", Answers.reading(x), 1, 0, 0, 1, 1, 1, 0, 1, 170, 100, 0, 1, 0);
        Check.row("seen 1", Answers.seen(x, 1), 100, 190, 5, 0, 0);
        Check.row("clerk 0", Answers.clerk(x, 0), 1, 40, 40, 0, 0);
        Check.due("told", x.told(0), 1);
        Check.due("step", x.step(1), 1);
        Check.row("reading", Answers.reading(x), 2, 0, 0, 2, 2, 1, 0, 0, 160, 100, 0, 1, 0);
        Check.row("seen 1", Answers.seen(x, 1), 100, 180, 5, 0, 0);
        Check.row("seen 2", Answers.seen(x, 2), 90, 170, 6, 1, 1);
        Check.due("step", x.step(1), 1);
        Check.row("reading", Answers.reading(x), 3, 0, 0, 3, 2, 1, 0, 1, 140, 170, 0, 0, 0);
        Check.row("seen 1", Answers.seen(x, 1), 100, 180, 5, 1, 0);
        Check.row("seen 2", Answers.seen(x, 2), 170, 170, 7, 0, 1);
        Check.due("told", x.told(0), 2);
        Check.due("step, no more than are needed", x.step(240), 1);
        Check.row("reading", Answers.reading(x), 4, 0, 0, 4, 3, 1, 1, NONE, 70, 170, 0, 0, 0);
        Check.row("seen 1", Answers.seen(x, 1), 100, 110, 5, 1, 0);
        Check.row("seen 4", Answers.seen(x, 4), 80, 140, 6, 2, 3);
        Check.row("seen 3", Answers.seen(x, 3), NONE, NONE, NONE, NONE, NONE);
        Check.row("clerk 1", Answers.clerk(x, 1), 2, 10, 10, 0, 0);
        Check.due("told", x.told(1), NONE);
        Check.due("end", x.end(), 1);
        Check.row("trial", Answers.trial(x, 0, false), 4, 4, 0, 0);
    }

    private static void inTurnLookingUp() {
        Check.promise("9, 10, 22 to 25, way 0 with look-ups");
        BribedClerks x = smallOffice();
        x.begin(0, true);
        x.step(1);
        Check.row("reading", Answers.reading(x), 1, 0, 2, 7, 1, 1, 0, 1, 170, 110, 0, 1, 0);
        Check.row("seen 1", Answers.seen(x, 1), 110, 110, 7, 0, 0);
        Check.row("clerk 0", Answers.clerk(x, 0), 1, 40, 40, 0, 0);
        Check.row("clerk 1", Answers.clerk(x, 1), 0, 90, 90, 0, 1);
        Check.row("clerk 2", Answers.clerk(x, 2), 0, 0, 0, 0, 1);
        Check.row("clerk 3", Answers.clerk(x, 3), NONE, NONE, NONE, NONE, NONE);
        Check.due("step", x.step(9), 1);
        Check.row("reading", Answers.reading(x), 2, 0, 4, 14, 2, 1, 1, NONE, 160, 170, 0, 0, 0);
        Check.row("clerk 0", Answers.clerk(x, 0), 1, 40, 40, 0, 1);
        Check.row("clerk 2", Answers.clerk(x, 2), 0, 0, 0, 0, 2);
        Check.due("told", x.told(0), 2);
        Check.row("trial", Answers.trial(x, 0, true), 2, 14, 0, 0);
        x.undo();
        x.undo();
        x.undo();
        x.want(2);
        x.begin(0, true);
        x.step(3);
        Check.due("a document is looked up once", x.reading(2), 4);
        Check.row("seen 2", Answers.seen(x, 2), 170, 170, 7, 0, 1);
    }

    private static void byBounds() {
        Check.promise("9, 10, way 1");
        BribedClerks x = smallOffice();
        x.begin(1, false);
        Check.due("next", x.reading(7), 0);
        x.step(1);
        Check.due("next", x.reading(7), 1);
        x.step(1);
        Check.due("the lowest of the same", x.reading(7), 0);
        x.step(1);
        Check.due("next", x.reading(7), 1);
        Check.due("step", x.step(240), 1);
        Check.due("over", x.reading(6), 1);
        x.end();
        Check.row("trial", Answers.trial(x, 1, false), 4, 4, 0, 0);
        Check.row("trial", Answers.trial(x, 1, true), 2, 14, 0, 0);
        x.bribe(0, 20);
        x.begin(1, false);
        Check.due("told bounds count", x.reading(7), 1);
        x.end();
        x.bribe(0, 500);
        x.bribe(1, 500);
        x.begin(1, false);
        Check.due("all tell 0", x.reading(7), 0);
    }

    private static void byRest() {
        Check.promise("9, 10, way 2");
        BribedClerks x = smallOffice();
        x.begin(2, false);
        int[] lists = {0, 0, 0, 1, 1};
        for (int i = 0; i < lists.length; i++) {
            Check.due("over before step " + i, x.reading(6), 0);
            Check.due("next", x.reading(7), lists[i]);
            Check.due("step", x.step(1), 1);
        }
        Check.row("reading", Answers.reading(x), 5, 0, 0, 5, 4, 1, 1, NONE, 10, 170, 0, 0, 0);
        Check.row("seen 4, in a list read to its end", Answers.seen(x, 4), 80, 80, 7, 2, 4);
        Check.row("seen 1", Answers.seen(x, 1), 100, 110, 5, 1, 0);
        Check.row("clerk 0", Answers.clerk(x, 0), 3, 0, 0, 0, 0);
        Check.row("trial", Answers.trial(x, 2, false), 5, 5, 0, 0);
        Check.row("trial", Answers.trial(x, 2, true), 2, 14, 0, 0);
        x.end();
        x.add(0, 20, 1);
        x.begin(2, false);
        Check.due("the fewest left", x.reading(7), 1);
    }

    private static void turnGoesRound() {
        Check.promise("10 step, the turn");
        BribedClerks x = Check.office(new int[][] {
            {1, 1, 9}, {1, 2, 8}, {3, 3, 9}, {5, 5, 9}, {5, 6, 8}, {5, 7, 7}, {0, 9, 9}, {4, 10, 9}});
        x.weight(1, 1);
        x.weight(3, 1);
        x.weight(5, 1);
        x.want(10);
        x.begin(0, false);
        int[] lists = {1, 3, 5, 1, 5, 5};
        for (int list : lists) {
            Check.due("next", x.reading(7), list);
            x.step(1);
        }
        Check.due("none is left", x.reading(7), NONE);
        Check.due("seen", x.reading(4), 6);
        Check.due("clerk 5", x.clerk(5, 0), 3);
        x.end();
        x.begin(0, false);
        Check.due("the lowest one at first again", x.reading(7), 1);
    }

    private static void bribedClerksEndTooEarly() {
        Check.promise("8, 22, 25, 26 bribes");
        BribedClerks x = Check.office(new int[][] {
            {0, 1, 100}, {0, 3, 80}, {1, 2, 99}, {1, 3, 80}});
        x.weight(0, 1);
        x.weight(1, 1);
        x.want(1);
        Check.row("trial, honest", Answers.trial(x, 0, false), 4, 4, 0, 0);
        x.bribe(0, 500);
        x.bribe(1, 500);
        x.bribe(4, 500);
        x.begin(0, false);
        Check.row("reading", Answers.reading(x), 0, 0, 0, 0, 0, 0, 0, 0, 0, 0, 0, 0, 2);
        Check.row("clerk 0", Answers.clerk(x, 0), 0, 0, 100, 0, 0);
        x.step(1);
        Check.row("reading", Answers.reading(x), 1, 0, 0, 1, 1, 1, 1, NONE, 80, 100, 1, 1, 1);
        Check.row("clerk 0", Answers.clerk(x, 0), 1, 80, 80, 1, 0);
        Check.row("clerk 1", Answers.clerk(x, 1), 0, 0, 99, 0, 0);
        Check.row("seen 1", Answers.seen(x, 1), 100, 100, 1, 0, 0);
        Check.due("caught in all", x.count(7), 1);
        Check.due("wanted", x.wanted(0), 3);
        Check.row("trial", Answers.trial(x, 0, false), 1, 1, 1, 1);
        Check.due("trials are not counted", x.count(7), 1);
        x.end();
        Check.due("caught in all, after the end", x.count(7), 1);
        x.begin(0, false);
        Check.due("bribed again in a new reading", x.clerk(0, 1), 0);
        x.step(1);
        Check.due("caught in all", x.count(7), 2);
        Check.due("caught in this one", x.reading(10), 1);
    }

    private static void caughtOnce() {
        Check.promise("10 step, caught once");
        BribedClerks x = Check.office(new int[][] {{2, 1, 50}, {2, 2, 50}, {2, 3, 40}, {2, 4, 3}});
        x.weight(2, 9);
        x.bribe(2, 5);
        x.want(10);
        x.begin(0, false);
        Check.due("sum", x.reading(8), 9 * 45);
        int[] bounds = {50, 40, 3, 0};
        for (int bound : bounds) {
            Check.due("step", x.step(1), 1);
            Check.row("clerk", new int[] {x.clerk(2, 1), x.clerk(2, 2), x.clerk(2, 3)}, bound, bound, 1);
            Check.due("caught", x.reading(10), 1);
            Check.due("caught in all", x.count(7), 1);
        }
        Check.due("over", x.reading(6), 1);
    }

    private static void smallBribeOfSmallScore() {
        Check.promise("22 clerk, at least 0");
        BribedClerks x = Check.office(new int[][] {{2, 1, 5}, {3, 2, 5}});
        x.weight(2, 1);
        x.weight(3, 1);
        x.bribe(2, 6);
        x.bribe(3, 5);
        x.begin(0, false);
        Check.due("told", x.clerk(2, 1), 0);
        Check.due("told", x.clerk(3, 1), 0);
        Check.due("sum", x.reading(8), 0);
        Check.due("telling less", x.reading(12), 2);
        x.step(2);
        Check.due("behind the last entry", x.clerk(2, 1), 0);
        Check.due("caught", x.reading(10), 2);
        Check.due("telling less", x.reading(12), 0);
    }

    private static void deletedIsWasted() {
        Check.promise("10 step, deleted documents");
        BribedClerks x = Check.office(new int[][] {
            {0, 1, 90}, {0, 2, 80}, {0, 3, 70}, {1, 1, 60}, {1, 2, 10}});
        x.weight(0, 1);
        x.weight(1, 1);
        x.bribe(0, 10);
        x.want(1);
        x.delete(1);
        x.begin(0, true);
        x.step(1);
        Check.row("reading", Answers.reading(x), 1, 1, 0, 1, 0, 0, 0, 1, 140, 0, 1, 0, 0);
        Check.row("clerk 0", Answers.clerk(x, 0), 1, 80, 80, 1, 0);
        Check.due("not seen", x.seen(1, 0), NONE);
        Check.due("not told", x.told(0), NONE);
        x.step(1);
        Check.due("wasted", x.reading(1), 2);
        x.step(1);
        Check.row("reading", Answers.reading(x), 3, 2, 1, 6, 1, 1, 1, NONE, 80, 90, 1, 0, 0);
        Check.row("seen 2", Answers.seen(x, 2), 90, 90, 3, 0, 2);
        Check.due("looked up", x.clerk(1, 4), 1);
        Check.due("end", x.end(), 1);
        x.begin(0, true);
        Check.due("wasted, anew", x.reading(1), 0);
        Check.due("caught, anew", x.reading(10), 0);
    }

    private static void tiesOfHighValues() {
        Check.promise("25 over, as great a high value");
        for (int other = 5; other <= 9; other += 4) {
            BribedClerks x = Check.office(new int[][] {
                {0, 7, 50}, {0, other, 40}, {0, 14 - other, 1}, {1, 8, 10}, {1, 6, 10}, {1, 4, 10}});
            x.weight(0, 1);
            x.weight(1, 1);
            x.want(1);
            x.begin(0, false);
            x.step(3);
            Check.due("high", x.seen(other, 1), 50);
            Check.due("over with " + other, x.reading(6), other > 7 ? 1 : 0);
            x.step(240);
            Check.due("steps", x.reading(0), other > 7 ? 3 : 6);
        }
    }

    private static void boundsMustBeLess() {
        Check.promise("25 over, the bounds");
        BribedClerks x = Check.office(new int[][] {{0, 5, 50}, {0, 7, 50}, {0, 9, 49}, {0, 8, 1}});
        x.weight(0, 1);
        x.want(1);
        x.begin(0, false);
        x.step(1);
        Check.due("as great", x.reading(8), 50);
        Check.due("over", x.reading(6), 0);
        x.step(1);
        Check.due("less", x.reading(8), 49);
        Check.due("over", x.reading(6), 1);
        Check.due("told", x.told(0), 5);
    }

    private static void frontOfSameLows() {
        Check.promise("23 seen, the front");
        BribedClerks x = Check.office(new int[][] {
            {0, 9, 20}, {0, 3, 10}, {1, 8, 20}, {1, 3, 10}, {2, 3, 1}, {2, 1, 20}});
        x.weight(0, 1);
        x.weight(1, 1);
        x.weight(2, 1);
        x.want(10);
        x.begin(0, false);
        x.step(3);
        int[] first = {1, 8, 9};
        for (int place = 0; place < 3; place++) {
            Check.due("told", x.told(place), first[place]);
            Check.due("place", x.seen(first[place], 3), place);
        }
        x.step(1);
        Check.due("a low value goes last", x.seen(3, 3), 3);
        x.step(1);
        Check.due("as great, behind 1", x.seen(3, 3), 1);
        x.step(1);
        Check.due("greater, ahead of all", x.told(0), 3);
        Check.due("low", x.seen(3, 0), 21);
        int[] last = {3, 1, 8, 9};
        for (int place = 0; place < 4; place++) {
            Check.due("told", x.told(place), last[place]);
        }
        Check.due("told", x.told(4), NONE);
    }

    private static void fewerThanWanted() {
        Check.promise("25 over, fewer than wanted");
        BribedClerks x = Check.office(new int[][] {{0, 5, 900}, {0, 7, 1}});
        x.weight(0, 1);
        x.want(2);
        x.begin(0, false);
        x.step(1);
        Check.due("one is told", x.reading(5), 1);
        Check.due("over", x.reading(6), 0);
        x.step(1);
        Check.due("over", x.reading(6), 1);
        Check.due("last low", x.reading(9), 1);
    }

    private static void longestReading() {
        Check.promise("10 step, all 240");
        BribedClerks x = new BribedClerks();
        for (int list = 0; list < 6; list++) {
            for (int document = 0; document < 40; document++) {
                x.add(list, document + list, 500);
            }
            x.weight(list, 9);
        }
        for (int document = 5; document < 60; document++) {
            x.delete(document);
        }
        x.want(10);
        x.begin(0, true);
        Check.due("step", x.step(239), 239);
        Check.due("over", x.reading(6), 0);
        Check.due("step", x.step(240), 1);
        Check.due("over", x.reading(6), 1);
        Check.due("wasted", x.reading(1), 240 - (5 + 4 + 3 + 2 + 1));
        Check.due("look-ups", x.reading(2), 25);
        Check.due("cost", x.reading(3), 240 + 75);
        Check.due("last low", x.reading(9), 9 * 500);
        Check.due("first low", x.seen(4, 0), 5 * 9 * 500);
        Check.due("known in all", x.seen(0, 2), 63);
        Check.due("trial", x.trial(2, true, 1), 315);
        Check.due("end", x.end(), 5);
    }

    private static void trialsLeaveAllAlone() {
        Check.promise("26 trial, 27 cheapest, change nothing");
        BribedClerks x = smallOffice();
        x.bribe(0, 7);
        x.begin(0, false);
        x.step(2);
        int[] before = Answers.reading(x);
        int states = x.count(8);
        for (int way = 0; way < 3; way++) {
            x.trial(way, true, 0);
            x.trial(way, false, 3);
        }
        x.cheapest();
        Check.row("reading", Answers.reading(x), before);
        Check.due("states", x.count(8), states);
        Check.due("begun", x.count(6), 1);
        Check.due("caught in all", x.count(7), 1);
        Check.due("goes on", x.step(240), 2);
        x.end();
        Check.due("trial", x.trial(0, false, 3), 1);
        Check.due("no reading is on", x.count(5), 0);
        Check.due("reading", x.reading(0), NOT_POSSIBLE);
    }

    private static void cheapest() {
        Check.promise("27 cheapest");
        Check.due("all the same or dearer", smallOffice().cheapest(), 0);
        BribedClerks bounds = Check.office(new int[][] {
            {0, 1, 5}, {0, 2, 4}, {0, 3, 3}, {1, 10, 999}, {1, 11, 1}});
        bounds.weight(0, 1);
        bounds.weight(1, 9);
        bounds.want(1);
        Check.due("way 0", bounds.trial(0, false, 1), 2);
        Check.due("way 0 with look-ups", bounds.trial(0, true, 1), 8);
        Check.due("way 1", bounds.trial(1, false, 1), 1);
        Check.due("way 1 with look-ups", bounds.trial(1, true, 1), 4);
        Check.due("way 2", bounds.trial(2, false, 1), 1);
        Check.due("by bounds", bounds.cheapest(), 2);
        BribedClerks look = Check.office(new int[][] {
            {0, 1, 100}, {0, 2, 50}, {0, 3, 49}, {0, 4, 48}, {0, 5, 47}, {0, 6, 46}, {0, 7, 45},
            {1, 8, 60}, {1, 9, 59}, {1, 10, 58}, {1, 11, 57}, {1, 12, 56}, {1, 13, 55}, {1, 1, 54}});
        look.weight(0, 1);
        look.weight(1, 1);
        look.want(1);
        Check.due("way 0 with look-ups", look.trial(0, true, 1), 4);
        Check.due("looking up", look.cheapest(), 1);
        BribedClerks rest = Check.office(new int[][] {
            {0, 2, 60}, {0, 3, 59}, {0, 4, 58}, {0, 5, 57}, {0, 6, 56}, {0, 7, 55}, {0, 1, 40},
            {2, 1, 50}, {2, 9, 1}});
        rest.weight(0, 1);
        rest.weight(2, 1);
        rest.want(1);
        Check.due("way 0 with look-ups", rest.trial(0, true, 1), 8);
        Check.due("way 2 with look-ups", rest.trial(2, true, 1), 4);
        Check.due("by the rest, looking up", rest.cheapest(), 5);
        Check.due("also while a reading is on", look.begin(0, false) + look.cheapest(), 1);
    }

    private static void endAndBeginAgain() {
        Check.promise("11 end");
        BribedClerks x = smallOffice();
        x.want(2);
        x.begin(1, true);
        x.step(1);
        Check.due("end, not over", x.end(), 1);
        Check.due("end again", x.end(), NOT_POSSIBLE);
        Check.due("off", x.count(5), 0);
        Check.due("states", x.count(8), 4);
        x.begin(0, false);
        Check.row("all anew", Answers.reading(x), 0, 0, 0, 0, 0, 0, 0, 0, 190, 0, 0, 0, 0);
        Check.due("no look-ups", x.clerk(1, 4), 0);
        Check.due("not seen", x.seen(1, 0), NONE);
        x.step(240);
        Check.due("no look-ups", x.reading(2), 0);
        Check.due("end", x.end(), 2);
        Check.due("begun", x.count(6), 2);
        x.undo();
        Check.due("undo the end", x.count(5), 1);
        Check.due("still over", x.reading(6), 1);
    }
}
