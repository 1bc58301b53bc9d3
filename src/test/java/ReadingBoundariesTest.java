/** Each boundary that CLERKS, A READING and the promises 9 to 11 name, a test each. */
final class ReadingBoundariesTest {
    private static final int BAD_VALUE = BribedClerks.BAD_VALUE;
    private static final int NOT_POSSIBLE = BribedClerks.NOT_POSSIBLE;
    private static final int NONE = BribedClerks.NONE;
    private static final int LEAST = Integer.MIN_VALUE;
    private static final int MOST = Integer.MAX_VALUE;
    private static final int WHOLE = 240;

    private ReadingBoundariesTest() {
    }

    static void run() {
        runClerks();
        runChoice();
        runWhatIsRead();
        runFront();
        runOver();
        runBegin();
        runStep();
        runEnd();
    }

    /** An office with these entries, whose lists have these weights. */
    private static BribedClerks office(int[] weights, int[][] entries) {
        BribedClerks x = Check.office(entries);
        for (int list = 0; list < weights.length; list++) {
            x.weight(list, weights[list]);
        }
        return x;
    }

    /** The lists that are read, one a step, until the reading is over. */
    private static int[] listsRead(BribedClerks x) {
        int[] lists = new int[WHOLE];
        int steps = 0;
        while (steps < WHOLE && x.reading(6) == 0) {
            lists[steps] = x.reading(7);
            x.step(1);
            steps++;
        }
        return java.util.Arrays.copyOf(lists, steps);
    }

    private static int[] bounds(BribedClerks x, int list) {
        return new int[] {x.clerk(list, 1), x.clerk(list, 2), x.clerk(list, 3)};
    }

    private static int[] known(BribedClerks x, int document) {
        return new int[] {x.seen(document, 0), x.seen(document, 1), x.seen(document, 2)};
    }

    // ---- CLERKS

    private static void runClerks() {
        readsFromTheFirst();
        boundOfRest();
        bribeOfClerk();
        atLeastZero();
        caughtByGreaterScore();
        notCaughtByBound();
        tellsBoundFromThenOn();
        caughtForOneReading();
    }

    private static void readsFromTheFirst() {
        Place.in("CLERKS", "who reads its entries from the first one on");
        BribedClerks x = office(new int[] {1}, new int[][] {{0, 5, 7}, {0, 6, 8}, {0, 7, 7}});
        x.want(10);
        x.begin(0, false);
        int[] documents = {6, 5, 7};
        for (int step = 0; step < 3; step++) {
            Check.due("read before", x.clerk(0, 0), step);
            Check.due("not seen before", x.seen(documents[step], 4), NONE);
            x.step(1);
            Check.due("seen in step", x.seen(documents[step], 4), step);
        }
        Check.due("read", x.clerk(0, 0), 3);
    }

    private static void boundOfRest() {
        Place.in("CLERKS", "the bound is the score of the next entry, or 0 if all are read");
        BribedClerks x = office(new int[] {1, 1}, new int[][] {{0, 5, 999}, {0, 6, 1}});
        x.begin(0, false);
        Check.due("of an empty list", x.clerk(1, 2), 0);
        int[] due = {999, 1, 0};
        for (int step = 0; step < 3; step++) {
            Check.due("bound as it is", x.clerk(0, 2), due[step]);
            Check.due("bound told", x.clerk(0, 1), due[step]);
            x.step(1);
        }
    }

    private static void bribeOfClerk() {
        Place.in("CLERKS", "A clerk can be bribed by 0 to 500 (at first 0)");
        BribedClerks x = office(new int[] {1, 1, 1},
            new int[][] {{0, 1, 999}, {1, 1, 999}, {2, 1, 999}});
        for (int list = 0; list < 6; list++) {
            Check.due("at first", x.list(list, 2), 0);
        }
        Check.each("-1 and 501", BAD_VALUE, x.bribe(0, -1), x.bribe(0, 501));
        x.bribe(1, 1);
        x.bribe(2, 500);
        x.begin(0, false);
        Check.row("bounds told", new int[] {x.clerk(0, 1), x.clerk(1, 1), x.clerk(2, 1)}, 999, 998, 499);
        Check.each("bounds as they are", 999, x.clerk(0, 2), x.clerk(1, 2), x.clerk(2, 2));
    }

    private static void atLeastZero() {
        Place.in("CLERKS", "the clerk then tells the bound less the bribe, but at least 0");
        BribedClerks x = office(new int[] {9, 9, 9, 9},
            new int[][] {{0, 1, 20}, {1, 1, 20}, {2, 1, 20}, {3, 1, 20}});
        x.bribe(0, 19);
        x.bribe(1, 20);
        x.bribe(2, 21);
        x.bribe(3, 500);
        x.begin(0, false);
        Check.row("bounds told",
            new int[] {x.clerk(0, 1), x.clerk(1, 1), x.clerk(2, 1), x.clerk(3, 1)}, 1, 0, 0, 0);
        Check.due("the sum", x.reading(8), 9);
        x.step(4);
        Check.row("behind the last entry",
            new int[] {x.clerk(0, 1), x.clerk(1, 1), x.clerk(2, 1), x.clerk(3, 1)}, 0, 0, 0, 0);
    }

    private static void caughtByGreaterScore() {
        Place.in("CLERKS", "whose score is greater than the bound that was told just before is caught");
        BribedClerks x = office(new int[] {1, 1}, new int[][] {{0, 1, 20}, {1, 2, 20}, {1, 3, 10}});
        x.bribe(0, 1);
        x.want(10);
        x.begin(0, false);
        Check.row("before it reads", bounds(x, 0), 19, 20, 0);
        x.step(1);
        Check.row("caught by 1", bounds(x, 0), 0, 0, 1);
        Check.row("the other clerk", bounds(x, 1), 20, 20, 0);
        Check.due("caught", x.reading(10), 1);
        x.end();
        x.bribe(0, 500);
        x.begin(0, false);
        Check.row("before it reads", bounds(x, 0), 0, 20, 0);
        x.step(1);
        Check.row("caught by all", bounds(x, 0), 0, 0, 1);
    }

    private static void notCaughtByBound() {
        Place.in("CLERKS", "is greater than the bound that was told just before");
        BribedClerks x = office(new int[] {1}, new int[][] {{0, 1, 20}, {0, 2, 20}, {0, 3, 10}});
        x.want(10);
        x.begin(0, false);
        for (int step = 0; step < 3; step++) {
            x.step(1);
            Check.due("a score that is as great", x.clerk(0, 3), 0);
        }
        Check.due("caught", x.reading(10), 0);
        Check.due("caught in all", x.count(7), 0);
    }

    private static void tellsBoundFromThenOn() {
        Place.in("CLERKS", "and tells the bound as it is from then on");
        BribedClerks x = office(new int[] {1},
            new int[][] {{0, 1, 20}, {0, 2, 18}, {0, 3, 5}, {0, 4, 1}});
        x.bribe(0, 3);
        x.want(10);
        x.begin(0, false);
        Check.row("bribed", bounds(x, 0), 17, 20, 0);
        int[] due = {18, 5, 1, 0};
        for (int bound : due) {
            x.step(1);
            Check.row("caught", bounds(x, 0), bound, bound, 1);
            Check.due("once", x.count(7), 1);
        }
    }

    private static void caughtForOneReading() {
        Place.in("CLERKS", "as long as this reading lasts");
        BribedClerks x = office(new int[] {1}, new int[][] {{0, 1, 20}, {0, 2, 18}});
        x.bribe(0, 3);
        x.begin(0, false);
        x.step(1);
        Check.row("caught", bounds(x, 0), 18, 18, 1);
        x.end();
        x.begin(0, false);
        Check.row("the next reading", bounds(x, 0), 17, 20, 0);
        Check.due("none is caught in it", x.reading(10), 0);
        x.step(1);
        Check.row("caught again", bounds(x, 0), 18, 18, 1);
        Check.due("twice in all", x.count(7), 2);
    }

    // ---- A READING: which list is read

    private static void runChoice() {
        listsWithEntriesLeft();
        turnBegins();
        turnGoesRound();
        greatestBound();
        boundsOfSeveral();
        boundsOfZero();
        fewestLeft();
        restsOfSeveral();
    }

    private static void listsWithEntriesLeft() {
        Place.in("A READING", "one list is chosen of those of the question that have entries left to read");
        int[][] due = {{2, 5, 5}, {2, 5, 5}, {2, 5, 5}};
        for (int way = 0; way < 3; way++) {
            BribedClerks x = office(new int[] {1, 0, 1, 1, 0, 1},
                new int[][] {{1, 1, 900}, {2, 2, 30}, {4, 4, 900}, {5, 5, 20}, {5, 6, 10}});
            x.want(10);
            x.begin(way, true);
            Check.row("way " + way, listsRead(x), due[way]);
            Check.due("steps", x.reading(0), 3);
            Check.due("none is left", x.reading(7), NONE);
        }
    }

    private static void turnBegins() {
        Place.in("A READING", "the lists come in turn: the first list behind the one that was read last");
        BribedClerks x = office(new int[] {1, 1, 0, 1}, new int[][] {
            {0, 1, 5}, {0, 2, 4}, {1, 3, 900}, {2, 4, 900}, {3, 5, 5}, {3, 6, 4}, {3, 7, 3}});
        x.want(10);
        x.begin(0, false);
        Check.row("lists", listsRead(x), 0, 1, 3, 0, 3, 3);
    }

    private static void turnGoesRound() {
        Place.in("A READING", "(the lowest one behind the highest one, and at first)");
        BribedClerks x = office(new int[] {0, 1, 0, 0, 0, 1}, new int[][] {
            {0, 9, 9}, {1, 1, 5}, {1, 2, 4}, {1, 3, 3}, {5, 4, 900}, {5, 5, 800}});
        x.want(10);
        x.begin(0, false);
        Check.due("at first", x.reading(7), 1);
        Check.row("lists", listsRead(x), 1, 5, 1, 5, 1);
        x.end();
        x.begin(0, false);
        x.step(2);
        x.end();
        x.begin(0, false);
        x.step(1);
        x.end();
        x.begin(0, true);
        Check.due("at first, whatever was read last", x.reading(7), 1);
    }

    private static void greatestBound() {
        Place.in("A READING", "by the way 1, the list with the greatest weight * told bound");
        BribedClerks x = office(new int[] {1, 4, 2, 0}, new int[][] {
            {0, 1, 99}, {0, 2, 40}, {1, 3, 25}, {1, 4, 13}, {2, 5, 90}, {3, 6, 999}});
        x.bribe(2, 40);
        x.want(10);
        x.begin(1, false);
        Check.due("the sum", x.reading(8), 99 + 100 + 100);
        x.end();
        x.bribe(2, 41);
        x.weight(0, 2);
        x.begin(1, false);
        Check.row("lists, of 198 100 98, then 80 and 52", listsRead(x), 0, 1, 2, 0, 1);
    }

    private static void boundsOfSeveral() {
        Place.in("A READING", "told bound, of several the lowest one");
        BribedClerks x = office(new int[] {0, 1, 3, 2}, new int[][] {
            {0, 9, 999}, {1, 1, 60}, {1, 2, 20}, {2, 3, 20}, {3, 4, 40}, {3, 5, 10}});
        x.bribe(3, 10);
        x.want(10);
        x.begin(1, false);
        Check.row("lists, of 60 60 60", listsRead(x), 1, 2, 3, 1, 3);
    }

    private static void boundsOfZero() {
        Place.in("A READING", "the greatest weight * told bound, of several");
        BribedClerks x = office(new int[] {1, 1, 1, 1}, new int[][] {
            {0, 1, 5}, {2, 2, 5}, {2, 3, 4}, {3, 4, 5}});
        x.bribe(0, 500);
        x.bribe(2, 500);
        x.bribe(3, 500);
        x.want(10);
        x.begin(1, false);
        Check.row("all tell 0, one is empty and one is read soon", listsRead(x), 0, 2, 2, 3);
    }

    private static void fewestLeft() {
        Place.in("A READING", "by the way 2, the list with the fewest entries left");
        BribedClerks x = office(new int[] {9, 1, 1, 0}, new int[][] {
            {0, 1, 9}, {0, 2, 8}, {0, 3, 7}, {0, 4, 6}, {1, 5, 9}, {1, 6, 8}, {1, 7, 7},
            {2, 8, 2}, {2, 9, 1}, {3, 10, 9}});
        x.want(10);
        x.begin(2, false);
        Check.row("lists", listsRead(x), 2, 2, 1, 1, 1, 0, 0, 0, 0);
        BribedClerks full = office(new int[] {1, 1}, new int[][] {{1, 0, 1}});
        for (int document = 0; document < 40; document++) {
            full.add(0, document, 900);
            full.add(1, document, 900);
        }
        full.drop(1, 5);
        full.begin(2, false);
        Check.due("39 of 40", full.reading(7), 1);
        full.end();
        full.add(1, 5, 1);
        full.begin(2, false);
        Check.due("40 of 40", full.reading(7), 0);
    }

    private static void restsOfSeveral() {
        Place.in("A READING", "the fewest entries left, of several the lowest one");
        BribedClerks x = office(new int[] {0, 1, 1, 1}, new int[][] {
            {0, 1, 9}, {0, 2, 8}, {1, 3, 1}, {1, 4, 1}, {2, 5, 9}, {2, 6, 8}, {3, 7, 9}, {3, 8, 8}});
        x.want(10);
        x.begin(2, false);
        Check.row("lists of 2 each", listsRead(x), 1, 1, 2, 2, 3, 3);
    }

    // ---- A READING: what is read

    private static void runWhatIsRead() {
        deletedIsWasted();
        clerkCaughtByDeleted();
        seenAndKnown();
        lookedUpOnce();
        lookedUpInEachList();
        lowValue();
        highValue();
        readToItsEnd();
    }

    private static void deletedIsWasted() {
        Place.in("A READING", "it is wasted, and nothing else happens with it");
        BribedClerks x = office(new int[] {1, 1}, new int[][] {{0, 1, 20}, {0, 2, 10}, {1, 1, 20}});
        x.delete(1);
        x.begin(0, true);
        x.step(1);
        Check.row("steps, wasted, look-ups, cost, seen",
            new int[] {x.reading(0), x.reading(1), x.reading(2), x.reading(3), x.reading(4)},
            1, 1, 0, 1, 0);
        Check.due("not seen", x.seen(1, 0), NONE);
        Check.due("not told", x.told(0), NONE);
        Check.due("read", x.clerk(0, 0), 1);
        x.step(1);
        Check.due("wasted again", x.reading(1), 2);
        x.step(1);
        Check.row("one that is not deleted",
            new int[] {x.reading(0), x.reading(1), x.reading(2), x.reading(3), x.reading(4)},
            3, 2, 1, 6, 1);
        Check.due("its step", x.seen(2, 4), 2);
    }

    private static void clerkCaughtByDeleted() {
        Place.in("A READING", "(its clerk can be caught by it)");
        BribedClerks x = office(new int[] {1}, new int[][] {{0, 1, 20}, {0, 2, 10}});
        x.bribe(0, 4);
        x.delete(1);
        x.begin(0, false);
        Check.row("bribed", bounds(x, 0), 16, 20, 0);
        x.step(1);
        Check.row("caught", bounds(x, 0), 10, 10, 1);
        Check.due("caught in all", x.count(7), 1);
        Check.due("wasted", x.reading(1), 1);
    }

    private static void seenAndKnown() {
        Place.in("A READING", "Otherwise the document is seen, and its score in this list is known");
        BribedClerks x = office(new int[] {2, 3}, new int[][] {
            {0, 1, 20}, {0, 2, 10}, {1, 2, 7}, {1, 3, 6}});
        x.begin(0, false);
        Check.each("before the first step", NONE, x.seen(1, 0), x.seen(2, 0), x.seen(3, 2));
        x.step(1);
        Check.due("seen", x.reading(4), 1);
        Check.row("known in list 0", known(x, 1), 40, 40 + 21, 1);
        Check.due("not seen", x.seen(2, 0), NONE);
        x.step(1);
        Check.row("known in list 1", known(x, 2), 21, 21 + 20, 2);
        x.end();
        x.want(10);
        x.begin(0, true);
        x.step(2);
        Check.row("known in both by a look-up", known(x, 2), 41, 41, 3);
        x.step(1);
        Check.row("known already when it is read", known(x, 2), 41, 41, 3);
    }

    private static void lookedUpOnce() {
        Place.in("A READING", "If the reading looks up, and the document was not seen before");
        int[][] entries = {{0, 1, 20}, {0, 2, 10}, {1, 1, 20}, {1, 2, 10}, {2, 1, 20}};
        BribedClerks x = office(new int[] {1, 1, 1}, entries);
        x.want(10);
        x.begin(0, true);
        int[] due = {2, 2, 2, 4, 4};
        for (int step = 0; step < due.length; step++) {
            x.step(1);
            Check.due("look-ups behind step " + step, x.reading(2), due[step]);
        }
        x.end();
        x.begin(0, false);
        x.step(WHOLE);
        Check.due("if it does not look up", x.reading(2), 0);
    }

    private static void lookedUpInEachList() {
        Place.in("A READING", "(each list is one look-up, also if the document is not in it,"
            + " or the list is read to its end)");
        BribedClerks x = office(new int[] {1, 0, 1, 1, 1}, new int[][] {
            {0, 1, 20}, {1, 2, 900}, {2, 2, 20}, {2, 3, 10}, {4, 4, 1}, {4, 1, 5}});
        x.want(10);
        x.begin(0, true);
        x.step(1);
        Check.row("look-ups of document 1, by list", lookUps(x), 0, NONE, 1, 1, 1, NONE);
        Check.row("known in all of the question", known(x, 1), 25, 25, 1 + 4 + 8 + 16);
        x.step(1);
        Check.row("list 0 is read to its end", lookUps(x), 1, NONE, 1, 2, 2, NONE);
        Check.row("not known in the list of weight 0", known(x, 2), 20, 20, 1 + 4 + 8 + 16);
        Check.due("all", x.reading(2), 6);
        Check.due("cost", x.reading(3), 2 + 18);
    }

    private static int[] lookUps(BribedClerks x) {
        int[] lookUps = new int[6];
        for (int list = 0; list < 6; list++) {
            lookUps[list] = x.clerk(list, 4);
        }
        return lookUps;
    }

    private static void lowValue() {
        Place.in("A READING", "in which its score is known (0 where it is known that it is not in the list)");
        BribedClerks x = office(new int[] {9, 3, 1}, new int[][] {
            {0, 1, 999}, {0, 2, 1}, {1, 2, 7}, {1, 1, 6}, {1, 3, 5}, {2, 3, 1}});
        x.want(10);
        x.begin(0, true);
        x.step(1);
        Check.row("18 in list 1, 0 in list 2", known(x, 1), 8991 + 18, 8991 + 18, 7);
        x.step(1);
        Check.row("9 in list 0, 0 in list 2", known(x, 2), 9 + 21, 9 + 21, 7);
        x.step(1);
        Check.row("0 in list 0, 15 in list 1", known(x, 3), 1 + 15, 1 + 15, 7);
        x.step(WHOLE);
        Check.row("known once, also where all is read",
            new int[] {x.seen(1, 0), x.seen(2, 0), x.seen(3, 0)}, 8991 + 18, 9 + 21, 1 + 15);
        x.end();
        x.begin(0, false);
        x.step(1);
        Check.due("of what is known alone", x.seen(1, 0), 8991);
    }

    private static void highValue() {
        Place.in("A READING", "the sum of weight * told bound over those in which it is not known");
        BribedClerks x = office(new int[] {1, 3, 9, 0}, new int[][] {
            {0, 1, 50}, {0, 2, 40}, {1, 3, 10}, {1, 1, 9}, {2, 4, 999}, {3, 1, 900}});
        x.bribe(1, 4);
        x.bribe(2, 500);
        x.want(10);
        x.begin(0, false);
        x.step(1);
        Check.row("told bounds 40, 6 and 499", known(x, 1), 50, 50 + 18 + 4491, 1);
        x.step(1);
        Check.row("told bounds 40, 9 and 499", known(x, 1), 50, 50 + 27 + 4491, 1);
        Check.row("of document 3", known(x, 3), 30, 30 + 40 + 4491, 2);
        x.step(1);
        Check.row("list 2 is read to its end", known(x, 1), 50, 50 + 27, 1 + 4);
        Check.row("of document 4", known(x, 4), 8991, 8991 + 40 + 27, 4);
    }

    private static void readToItsEnd() {
        Place.in("A READING", "In a list that is read to its end, the score of each document is known");
        BribedClerks x = office(new int[] {1, 2, 1, 0}, new int[][] {
            {0, 1, 50}, {1, 2, 10}, {1, 3, 9}, {3, 1, 7}});
        x.want(10);
        x.begin(0, false);
        Check.due("an empty list, none seen", x.reading(4), 0);
        x.step(1);
        Check.row("list 0, and the empty list 2", known(x, 1), 50, 50 + 20, 1 + 4);
        x.step(1);
        Check.row("list 0 by its end, list 1 by reading", known(x, 2), 20, 20, 1 + 2 + 4);
        Check.row("one entry is left in list 1", known(x, 1), 50, 50 + 18, 1 + 4);
        x.step(1);
        Check.row("none is left in list 1", known(x, 1), 50, 50, 1 + 2 + 4);
        Check.row("of the last one", known(x, 3), 18, 18, 1 + 2 + 4);
    }

    // ---- A READING: the front

    private static void runFront() {
        frontByLowValues();
        frontOfSame();
        firstAreTold();
    }

    private static int[] told(BribedClerks x) {
        int[] told = new int[x.reading(5)];
        for (int place = 0; place < told.length; place++) {
            told[place] = x.told(place);
            Check.due("place of " + told[place], x.seen(told[place], 3), place);
        }
        return told;
    }

    private static void frontByLowValues() {
        Place.in("A READING", "in the order of their low values, the greatest first");
        BribedClerks x = office(new int[] {1, 2}, new int[][] {
            {0, 1, 50}, {0, 2, 49}, {0, 3, 48}, {1, 4, 20}, {1, 2, 19}, {1, 3, 18}});
        x.want(10);
        x.begin(0, false);
        int[][] due = {{1}, {1, 4}, {1, 2, 4}, {2, 1, 4}, {2, 1, 3, 4}, {2, 3, 1, 4}};
        for (int[] documents : due) {
            x.step(1);
            Check.row("the front", told(x), documents);
        }
    }

    private static void frontOfSame() {
        Place.in("A READING", "of the same the lower document first");
        BribedClerks x = office(new int[] {1, 1, 1}, new int[][] {
            {0, 30, 20}, {1, 59, 20}, {2, 0, 20}, {0, 31, 10}, {1, 31, 10}, {1, 1, 5}, {2, 29, 20}});
        x.want(10);
        x.begin(0, false);
        int[][] due = {{30}, {30, 59}, {0, 30, 59}, {0, 30, 59, 31}, {0, 30, 31, 59},
            {0, 29, 30, 31, 59}, {0, 29, 30, 31, 59, 1}};
        for (int[] documents : due) {
            x.step(1);
            Check.row("the front", told(x), documents);
        }
    }

    private static void firstAreTold() {
        Place.in("A READING", "the first k of them are told (all of them, if there are not so many)");
        BribedClerks x = office(new int[] {1, 1}, new int[][] {
            {0, 1, 50}, {0, 2, 50}, {0, 3, 48}, {0, 4, 47}, {1, 5, 900}});
        x.want(2);
        x.begin(0, false);
        int[][] due = {{}, {1}, {5, 1}, {5, 1}, {5, 1}};
        for (int step = 0; step < due.length; step++) {
            Check.row("told behind " + step + " steps", told(x), due[step]);
            Check.due("one more", x.told(due[step].length), NONE);
            Check.due("step", x.step(1), step < 3 ? 1 : NONE);
        }
        Check.due("over", x.reading(6), 1);
        Check.due("seen", x.reading(4), 3);
        Check.due("a place behind those that are told", x.seen(2, 3), 2);
    }

    // ---- A READING: when it is over

    private static void runOver() {
        overWithoutEntries();
        overOnlyIfAllAreTold();
        overIfBoundsAreLess();
        overIfOthersAreLess();
        overIfOthersAreAsGreat();
        lookedAtBehindEachStep();
    }

    private static void overWithoutEntries() {
        Place.in("A READING", "A reading is over as soon as no list of the question has entries left");
        BribedClerks x = office(new int[] {1, 1}, new int[][] {{0, 1, 5}, {1, 1, 5}, {2, 3, 900}});
        x.want(10);
        x.begin(0, false);
        Check.due("two left", x.reading(6), 0);
        x.step(1);
        Check.due("one left", x.reading(6), 0);
        x.step(1);
        Check.due("none left", x.reading(6), 1);
        Check.due("fewer than wanted", x.reading(5), 1);
        BribedClerks empty = office(new int[] {0, 9}, new int[][] {{0, 1, 5}});
        Check.due("without an entry at all", empty.begin(1, true), 1);
        Check.due("next", empty.reading(7), NONE);
        Check.due("seen", empty.reading(4), 0);
    }

    private static void overOnlyIfAllAreTold() {
        Place.in("A READING", "or, if k documents are told");
        BribedClerks x = office(new int[] {1, 1}, new int[][] {
            {0, 1, 900}, {0, 2, 800}, {0, 3, 1}, {1, 1, 1}});
        x.want(3);
        x.bribe(1, 500);
        x.begin(0, false);
        x.step(1);
        x.step(1);
        Check.due("one of three", x.reading(6), 0);
        x.step(1);
        Check.due("two of three, and a bound of 1", x.reading(6), 0);
        Check.due("the sum", x.reading(8), 1);
        x.step(1);
        Check.due("three of three", x.reading(6), 1);
        BribedClerks all = office(new int[] {1}, new int[][] {{0, 1, 9}, {0, 2, 7}, {0, 3, 1}});
        all.want(2);
        all.begin(0, false);
        Check.due("two of two", all.step(WHOLE), 2);
        BribedClerks one = office(new int[] {1}, new int[][] {{0, 0, 9}, {0, 2, 7}, {0, 3, 1}});
        one.want(2);
        one.delete(2);
        one.delete(3);
        one.begin(0, false);
        Check.due("one of two, and none is left to be told", one.step(WHOLE), 3);
    }

    private static void overIfBoundsAreLess() {
        Place.in("A READING", "the sum of weight * told bound over all lists of the question is less than L");
        for (int low = 40; low <= 42; low++) {
            BribedClerks x = office(new int[] {1, 2, 3, 0}, new int[][] {
                {0, 1, low}, {0, 2, 1}, {1, 3, 9}, {2, 5, 8}, {3, 7, 999}});
            x.bribe(1, 1);
            x.want(1);
            x.begin(1, false);
            Check.due("step", x.step(1), 1);
            Check.due("the low value", x.reading(9), low);
            Check.due("the sum", x.reading(8), 1 + 16 + 24);
            Check.due("over with " + low, x.reading(6), low > 41 ? 1 : 0);
        }
    }

    private static void overIfOthersAreLess() {
        Place.in("A READING", "each other seen document has a high value that is less than L");
        for (int high = 99; high <= 101; high++) {
            BribedClerks x = withOther(4, high);
            Check.due("steps", x.step(4), 4);
            Check.due("the high value", x.seen(4, 1), high);
            Check.due("over with it", x.reading(6), high < 100 ? 1 : 0);
        }
        BribedClerks x = office(new int[] {1, 1}, new int[][] {
            {0, 5, 100}, {0, 7, 60}, {0, 6, 49}, {0, 9, 1},
            {1, 6, 46}, {1, 8, 45}, {1, 10, 44}, {1, 11, 2}});
        x.want(1);
        x.begin(0, false);
        x.step(5);
        Check.row("low values of the others", new int[] {x.seen(6, 0), x.seen(7, 0), x.seen(8, 0)},
            95, 60, 45);
        Check.row("high values of the others", new int[] {x.seen(6, 1), x.seen(7, 1), x.seen(8, 1)},
            95, 104, 46);
        Check.due("the second one of them is not safe", x.reading(6), 0);
        x.step(1);
        Check.due("all are", x.reading(6), 1);
    }

    /** Document 5 is told with 100, and behind four steps the other one has this high value. */
    private static BribedClerks withOther(int other, int high) {
        BribedClerks x = office(new int[] {1, 1, 1}, new int[][] {
            {0, 5, 100}, {0, other, high - 10}, {0, 9, 1}, {1, 10, 10}, {1, 11, 10}, {2, 12, 50}});
        x.want(1);
        x.begin(0, false);
        return x;
    }

    private static void overIfOthersAreAsGreat() {
        Place.in("A READING", "or is as great, and the document is higher than the last one that is told");
        int[] others = {4, 6, 0, 59};
        for (int other : others) {
            BribedClerks x = withOther(other, 100);
            Check.due("steps", x.step(4), 4);
            Check.due("the high value", x.seen(other, 1), 100);
            Check.due("over with document " + other, x.reading(6), other > 5 ? 1 : 0);
        }
        BribedClerks second = office(new int[] {1, 1}, new int[][] {
            {0, 1, 200}, {0, 5, 100}, {0, 4, 90}, {0, 9, 1},
            {1, 10, 10}, {1, 11, 10}, {1, 12, 10}, {1, 13, 10}});
        second.want(2);
        second.begin(0, false);
        Check.due("steps", second.step(5), 5);
        Check.due("of two that are told the last one counts", second.reading(6), 0);
    }

    private static void lookedAtBehindEachStep() {
        Place.in("A READING", "This is looked at before the first step, and behind each step");
        BribedClerks x = office(new int[] {1}, new int[][] {{0, 1, 9}, {0, 2, 8}, {0, 3, 7}, {0, 4, 6}});
        x.want(2);
        Check.due("before the first step", x.begin(0, false), 0);
        Check.due("no step more than needed", x.step(WHOLE), 2);
        Check.due("read", x.clerk(0, 0), 2);
        BribedClerks empty = office(new int[] {1}, new int[][] {});
        Check.due("before the first step", empty.begin(2, false), 1);
        Check.due("no step at all", empty.step(1), NONE);
        Check.due("steps", empty.reading(0), 0);
    }

    // ---- promises 9 to 11

    private static void runBegin() {
        beginAnew();
        beginWay();
        beginOverAtOnce();
        beginBadValue();
        beginNotPossible();
    }

    private static void beginAnew() {
        Place.in("Promise 9", "Begins a reading");
        BribedClerks x = office(new int[] {1, 2}, new int[][] {
            {0, 1, 20}, {0, 2, 10}, {0, 3, 5}, {1, 2, 9}, {1, 1, 8}});
        x.bribe(0, 4);
        x.delete(1);
        x.begin(2, true);
        x.step(4);
        Check.row("steps, wasted, look-ups, seen, caught", new int[] {
            x.reading(0), x.reading(1), x.reading(2), x.reading(4), x.reading(10)}, 4, 2, 1, 1, 1);
        x.end();
        Check.due("begin", x.begin(0, false), 0);
        for (int what = 0; what < 13; what++) {
            int due = what == 8 ? 16 + 18 : what == 12 ? 1 : 0;
            Check.due("reading " + what, x.reading(what), due);
        }
        Check.row("clerk 0", new int[] {x.clerk(0, 0), x.clerk(0, 1), x.clerk(0, 2), x.clerk(0, 3),
            x.clerk(0, 4)}, 0, 16, 20, 0, 0);
        Check.each("none is seen", NONE, x.seen(2, 0), x.seen(3, 2), x.told(0));
        x.step(4);
        Check.row("known behind four steps", known(x, 2), 28, 28, 3);
        Check.due("its first step", x.seen(2, 4), 1);
    }

    private static void beginWay() {
        Place.in("Promise 9", "`way`: 0 to 2");
        for (int way = 0; way < 3; way++) {
            BribedClerks x = office(new int[] {1, 9}, new int[][] {
                {0, 1, 5}, {0, 2, 4}, {0, 3, 3}, {1, 4, 5}, {1, 5, 4}, {1, 6, 3}, {1, 7, 2}});
            x.want(10);
            Check.each("-1 and 3", BAD_VALUE, x.begin(-1, false), x.begin(3, false));
            Check.due("way " + way, x.begin(way, false), 0);
            int[][] due = {{0, 1, 0, 1, 0, 1, 1}, {1, 1, 1, 1, 0, 0, 0}, {0, 0, 0, 1, 1, 1, 1}};
            Check.row("lists by the way " + way, listsRead(x), due[way]);
        }
    }

    private static void beginOverAtOnce() {
        Place.in("Promise 9", "Returns 1 if it is over at once, otherwise 0");
        BribedClerks x = office(new int[] {1}, new int[][] {{1, 1, 5}});
        Check.due("the only list is empty", x.begin(0, false), 1);
        Check.due("over", x.reading(6), 1);
        Check.due("but on", x.count(5), 1);
        x.end();
        x.add(0, 1, 1);
        x.bribe(0, 500);
        Check.due("one entry, a bound of 0", x.begin(0, false), 0);
        x.end();
        x.delete(1);
        Check.due("one entry, of a deleted document", x.begin(0, false), 0);
    }

    private static void beginBadValue() {
        Place.in("Promise 9", "BAD_VALUE");
        BribedClerks x = office(new int[] {}, new int[][] {{0, 1, 5}});
        int[] ways = {-1, 3, LEAST, MOST};
        for (int way : ways) {
            Check.due("way " + way + ", ahead of no question", x.begin(way, true), BAD_VALUE);
        }
        x.weight(0, 1);
        Check.each("way", BAD_VALUE, x.begin(-1, false), x.begin(3, true));
        x.begin(0, false);
        Check.each("way, ahead of a reading", BAD_VALUE, x.begin(-1, false), x.begin(3, true));
        Check.due("begun", x.count(6), 1);
    }

    private static void beginNotPossible() {
        Place.in("Promise 9", "NOT_POSSIBLE if a reading is on, or no list belongs to the question");
        BribedClerks x = office(new int[] {}, new int[][] {{0, 1, 5}});
        Check.each("no list", NOT_POSSIBLE, x.begin(0, false), x.begin(2, true));
        x.weight(5, 1);
        Check.due("an empty list is one", x.begin(0, false), 1);
        Check.each("a reading is on, and over", NOT_POSSIBLE, x.begin(0, false), x.begin(1, true));
        x.end();
        x.weight(0, 1);
        Check.due("after the reading", x.begin(0, false), 0);
        Check.due("a reading is on", x.begin(0, false), NOT_POSSIBLE);
        x.end();
        x.weight(0, 0);
        x.weight(5, 0);
        Check.due("no list any more", x.begin(0, false), NOT_POSSIBLE);
        Check.due("begun", x.count(6), 2);
    }

    private static void runStep() {
        stepUntilOver();
        stepsAtMost();
        stepsDone();
        stepBadValue();
        stepNotPossible();
        stepNone();
    }

    /** A list of the question with 40 entries, of which all are read. */
    private static BribedClerks longReading() {
        BribedClerks x = new BribedClerks();
        for (int document = 0; document < 40; document++) {
            x.add(0, document, 900);
        }
        x.weight(0, 1);
        for (int document = 9; document < 40; document++) {
            x.delete(document);
        }
        x.want(10);
        x.begin(0, false);
        return x;
    }

    private static void stepUntilOver() {
        Place.in("Promise 10", "Goes on with the reading, until it is over");
        BribedClerks x = longReading();
        Check.due("step", x.step(39), 39);
        Check.due("not over", x.reading(6), 0);
        Check.due("step", x.step(2), 1);
        Check.due("over", x.reading(6), 1);
        Check.due("steps", x.reading(0), 40);
    }

    private static void stepsAtMost() {
        Place.in("Promise 10", "`steps`: 1 to 240: how many steps at most");
        BribedClerks x = longReading();
        Check.due("1", x.step(1), 1);
        Check.due("2", x.step(2), 2);
        Check.due("steps", x.reading(0), 3);
        Check.each("one too small, one too great", BAD_VALUE, x.step(0), x.step(241));
        Check.due("240", x.step(240), 37);
    }

    private static void stepsDone() {
        Place.in("Promise 10", "Returns how many steps are done");
        BribedClerks x = new BribedClerks();
        for (int list = 0; list < 6; list++) {
            for (int document = 20; document < 60; document++) {
                x.add(list, document, 999);
            }
            x.weight(list, 1);
        }
        for (int document = 20; document < 60; document++) {
            x.delete(document);
        }
        x.begin(2, true);
        Check.due("all entries of all lists", x.step(240), 240);
        Check.due("wasted", x.reading(1), 240);
        x.undo();
        Check.due("one less", x.step(239), 239);
        Check.due("one is left", x.step(240), 1);
    }

    private static void stepBadValue() {
        Place.in("Promise 10", "BAD_VALUE");
        BribedClerks x = office(new int[] {1}, new int[][] {{0, 1, 5}});
        int[] steps = {0, 241, -1, LEAST, MOST};
        for (int number : steps) {
            Check.due(number + ", ahead of no reading", x.step(number), BAD_VALUE);
        }
        x.begin(0, false);
        for (int number : steps) {
            Check.due(number + " in a reading", x.step(number), BAD_VALUE);
        }
        Check.due("no step is done", x.reading(0), 0);
        x.step(1);
        for (int number : steps) {
            Check.due(number + ", ahead of the end", x.step(number), BAD_VALUE);
        }
    }

    private static void stepNotPossible() {
        Place.in("Promise 10", "NOT_POSSIBLE if no reading is on");
        BribedClerks x = office(new int[] {1}, new int[][] {{0, 1, 5}, {0, 2, 4}});
        Check.each("before a reading", NOT_POSSIBLE, x.step(1), x.step(240));
        x.begin(0, false);
        Check.due("in it", x.step(1), 1);
        x.end();
        Check.each("after it", NOT_POSSIBLE, x.step(1), x.step(240));
        x.begin(0, false);
        x.step(WHOLE);
        x.end();
        Check.due("after one that was over, ahead of NONE", x.step(1), NOT_POSSIBLE);
    }

    private static void stepNone() {
        Place.in("Promise 10", "NONE if it is over");
        BribedClerks x = office(new int[] {1}, new int[][] {{0, 1, 5}, {0, 2, 4}});
        x.want(1);
        x.begin(0, false);
        Check.due("the only step", x.step(2), 1);
        Check.each("over, with an entry left", NONE, x.step(1), x.step(240));
        Check.due("read", x.clerk(0, 0), 1);
        x.end();
        x.want(2);
        x.begin(0, false);
        x.step(2);
        Check.each("over, with none left", NONE, x.step(1), x.step(240));
        Check.due("steps", x.reading(0), 2);
    }

    private static void runEnd() {
        endOverOrNot();
        endTold();
        endNotPossible();
    }

    private static void endOverOrNot() {
        Place.in("Promise 11", "Ends the reading, over or not");
        BribedClerks x = office(new int[] {1}, new int[][] {{0, 1, 5}});
        int[] steps = {0, 1};
        for (int number : steps) {
            x.begin(0, false);
            if (number > 0) {
                x.step(number);
            }
            Check.due("is it over", x.reading(6), number);
            Check.due("end", x.end(), number);
            Check.due("off", x.count(5), 0);
            Check.due("nothing is told of it", x.reading(0), NOT_POSSIBLE);
        }
    }

    private static void endTold() {
        Place.in("Promise 11", "Returns the number of documents that are told");
        BribedClerks x = office(new int[] {1}, new int[][] {{0, 1, 5}, {0, 2, 5}, {0, 3, 5}, {0, 4, 5}});
        x.want(2);
        int[] due = {0, 1, 2, 2, 2};
        for (int steps = 0; steps < due.length; steps++) {
            x.begin(0, false);
            if (steps > 0) {
                x.step(steps);
            }
            Check.due("behind " + steps + " steps", x.end(), due[steps]);
        }
        x.delete(1);
        x.delete(2);
        x.delete(3);
        x.begin(0, false);
        x.step(3);
        Check.due("behind wasted ones", x.end(), 0);
    }

    private static void endNotPossible() {
        Place.in("Promise 11", "NOT_POSSIBLE if no reading is on");
        BribedClerks x = office(new int[] {1}, new int[][] {{0, 1, 5}});
        Check.due("before a reading", x.end(), NOT_POSSIBLE);
        x.begin(0, false);
        Check.due("in it", x.end(), 0);
        Check.each("after it", NOT_POSSIBLE, x.end(), x.end());
    }
}
