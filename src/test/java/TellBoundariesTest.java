/** Each boundary that the promises 18 to 28 name, a test each. */
final class TellBoundariesTest {
    private static final int UNKNOWN = BribedClerks.UNKNOWN;
    private static final int BAD_VALUE = BribedClerks.BAD_VALUE;
    private static final int NOT_POSSIBLE = BribedClerks.NOT_POSSIBLE;
    private static final int NONE = BribedClerks.NONE;
    private static final int LEAST = Integer.MIN_VALUE;
    private static final int MOST = Integer.MAX_VALUE;

    private TellBoundariesTest() {
    }

    static void run() {
        runList();
        runEntry();
        runDocument();
        runWanted();
        runClerk();
        runSeen();
        runTold();
        runReading();
        runTrial();
        runCheapest();
        runCount();
    }

    /** Two lists of the question, 0 and 2, an empty one, 3, and one that is none of it, 1. */
    private static BribedClerks office() {
        BribedClerks x = Check.office(new int[][] {
            {0, 1, 90}, {0, 2, 80}, {0, 3, 70}, {1, 4, 999}, {2, 3, 60}, {2, 2, 50}, {2, 59, 40}});
        x.weight(0, 1);
        x.weight(2, 2);
        x.weight(3, 9);
        x.want(2);
        return x;
    }

    // ---- promise 18

    private static void runList() {
        listNumbers();
        listGreatest();
        listDeleted();
        listUnknown();
        listBadValue();
    }

    private static void listNumbers() {
        Place.in("Promise 18", "`what`: 0 for its entries, 1 for its weight, 2 for the bribe");
        BribedClerks x = office();
        x.bribe(0, 500);
        x.delete(1);
        x.delete(3);
        x.delete(58);
        int[][] due = {{3, 1, 500, 90, 2}, {1, 0, 0, 999, 0}, {3, 2, 0, 60, 1}, {0, 9, 0, 0, 0}};
        for (int list = 0; list < due.length; list++) {
            for (int what = 0; what < 5; what++) {
                Check.due("list(" + list + ", " + what + ")", x.list(list, what), due[list][what]);
            }
        }
        Check.each("-1 and 5", BAD_VALUE, x.list(0, -1), x.list(0, 5));
    }

    private static void listGreatest() {
        Place.in("Promise 18", "3 for its greatest score (0 without entries)");
        BribedClerks x = new BribedClerks();
        Check.due("without entries", x.list(5, 3), 0);
        x.add(5, 1, 1);
        Check.due("1", x.list(5, 3), 1);
        x.add(5, 2, 999);
        x.delete(2);
        Check.due("999, of a deleted document", x.list(5, 3), 999);
        x.drop(5, 2);
        Check.due("1 again", x.list(5, 3), 1);
        x.drop(5, 1);
        Check.due("without entries again", x.list(5, 3), 0);
    }

    private static void listDeleted() {
        Place.in("Promise 18", "4 for entries of deleted documents in it");
        BribedClerks x = office();
        int[] due = {1, 2, 3};
        Check.each("none is deleted", 0, x.list(0, 4), x.list(5, 4));
        for (int number = 0; number < due.length; number++) {
            x.delete(number + 1);
            Check.due("deleted up to " + (number + 1), x.list(0, 4), due[number]);
        }
        Check.row("by list", new int[] {x.list(1, 4), x.list(2, 4), x.list(5, 4)}, 0, 2, 0);
        x.drop(0, 2);
        Check.due("dropped", x.list(0, 4), 2);
        x.bring(1);
        Check.due("brought back", x.list(0, 4), 1);
    }

    private static void listUnknown() {
        Place.in("Promise 18", "UNKNOWN");
        BribedClerks x = office();
        Check.each("lists", UNKNOWN, x.list(-1, 0), x.list(6, 0), x.list(LEAST, 4), x.list(MOST, 4));
        Check.each("ahead of a bad what", UNKNOWN, x.list(-1, -1), x.list(6, 5));
    }

    private static void listBadValue() {
        Place.in("Promise 18", "BAD_VALUE");
        BribedClerks x = office();
        Check.each("what", BAD_VALUE, x.list(0, -1), x.list(5, 5), x.list(0, LEAST), x.list(0, MOST));
        Check.each("0 and 4", 0, x.list(5, 0), x.list(5, 4));
    }

    // ---- promise 19

    private static void runEntry() {
        entryPlace();
        entryWhat();
        entryUnknown();
        entryBadValue();
        entryNone();
    }

    private static void entryPlace() {
        Place.in("Promise 19", "`place`: a place in it, from 0");
        BribedClerks x = new BribedClerks();
        for (int list = 0; list < 6; list++) {
            for (int i = 0; i < 40; i++) {
                x.add(list, 59 - i, 900 - i);
            }
            Check.due("the first one", x.entry(list, 0, 0), 59);
            Check.due("the last one", x.entry(list, 39, 0), 20);
            Check.due("the last score", x.entry(list, 39, 1), 861);
            Check.due("behind it", x.entry(list, 40, 0), NONE);
            Check.due("ahead of the first", x.entry(list, -1, 0), BAD_VALUE);
        }
    }

    private static void entryWhat() {
        Place.in("Promise 19", "`what`: 0 for the document, 1 for the score");
        BribedClerks x = Check.office(new int[][] {{5, 0, 999}, {5, 59, 1}});
        Check.row("documents", new int[] {x.entry(5, 0, 0), x.entry(5, 1, 0)}, 0, 59);
        Check.row("scores", new int[] {x.entry(5, 0, 1), x.entry(5, 1, 1)}, 999, 1);
        Check.each("-1 and 2", BAD_VALUE, x.entry(5, 0, -1), x.entry(5, 0, 2));
    }

    private static void entryUnknown() {
        Place.in("Promise 19", "UNKNOWN (list)");
        BribedClerks x = office();
        Check.each("lists", UNKNOWN,
            x.entry(-1, 0, 0), x.entry(6, 0, 0), x.entry(LEAST, 0, 0), x.entry(MOST, 0, 0));
        Check.each("ahead of all else", UNKNOWN, x.entry(-1, -1, 0), x.entry(6, 0, 2), x.entry(6, 99, 0));
    }

    private static void entryBadValue() {
        Place.in("Promise 19", "BAD_VALUE (place is negative, or what)");
        BribedClerks x = office();
        Check.each("places", BAD_VALUE, x.entry(0, -1, 0), x.entry(0, LEAST, 1), x.entry(5, -1, 0));
        Check.each("what", BAD_VALUE,
            x.entry(0, 0, -1), x.entry(0, 0, 2), x.entry(0, 0, LEAST), x.entry(0, 0, MOST));
        Check.each("ahead of NONE", BAD_VALUE, x.entry(0, 3, 2), x.entry(5, 0, -1));
    }

    private static void entryNone() {
        Place.in("Promise 19", "NONE if there are not so many entries");
        BribedClerks x = office();
        Check.due("the last one", x.entry(0, 2, 0), 3);
        Check.each("behind it", NONE,
            x.entry(0, 3, 0), x.entry(0, 3, 1), x.entry(0, 40, 0), x.entry(0, MOST, 1));
        Check.each("of an empty list", NONE, x.entry(5, 0, 0), x.entry(5, 0, 1));
        x.drop(0, 3);
        Check.due("of a list with one less", x.entry(0, 2, 0), NONE);
    }

    // ---- promises 20 and 21

    private static void runDocument() {
        documentWhat();
        documentBits();
        documentPlace();
        documentUnknown();
        documentBadValue();
    }

    private static void documentWhat() {
        Place.in("Promise 20", "0 for whether it is deleted (1, otherwise 0), 1 for its value");
        BribedClerks x = office();
        Check.row("document 3", new int[] {x.document(3, 0), x.document(3, 1)}, 0, 70 + 120);
        x.delete(3);
        x.delete(0);
        Check.row("deleted", new int[] {x.document(3, 0), x.document(3, 1)}, 1, 70 + 120);
        Check.row("deleted, in no list", new int[] {x.document(0, 0), x.document(0, 1)}, 1, 0);
        Check.row("neither", new int[] {x.document(58, 0), x.document(58, 1)}, 0, 0);
        Check.row("in no list of the question", new int[] {x.document(4, 0), x.document(4, 1)}, 0, 0);
    }

    private static void documentBits() {
        Place.in("Promise 20", "2 for the lists that have it (as bits)");
        BribedClerks x = new BribedClerks();
        int[] due = {1, 3, 7, 15, 31, 63};
        Check.due("none", x.document(59, 2), 0);
        for (int list = 0; list < 6; list++) {
            x.add(list, 59, 5);
            Check.due("up to list " + list, x.document(59, 2), due[list]);
        }
        x.drop(0, 59);
        x.delete(59);
        Check.due("without the first one", x.document(59, 2), 62);
        Check.due("another document", x.document(58, 2), 0);
    }

    private static void documentPlace() {
        Place.in("Promise 20", "from 0 (NONE if it is none of them)");
        BribedClerks x = office();
        Check.row("of values 190 180 90 80",
            new int[] {x.document(3, 3), x.document(2, 3), x.document(1, 3), x.document(59, 3)},
            0, 1, NONE, NONE);
        x.want(4);
        Check.row("of four", new int[] {x.document(1, 3), x.document(59, 3)}, 2, 3);
        x.delete(3);
        Check.row("of three", new int[] {x.document(3, 3), x.document(2, 3), x.document(59, 3)}, NONE, 0, 2);
        Check.each("without a value", NONE, x.document(4, 3), x.document(0, 3));
    }

    private static void documentUnknown() {
        Place.in("Promise 20", "UNKNOWN");
        BribedClerks x = office();
        Check.each("documents", UNKNOWN,
            x.document(-1, 0), x.document(60, 1), x.document(LEAST, 2), x.document(MOST, 3));
        Check.each("ahead of a bad what", UNKNOWN, x.document(-1, -1), x.document(60, 4));
    }

    private static void documentBadValue() {
        Place.in("Promise 20", "BAD_VALUE");
        BribedClerks x = office();
        Check.each("what", BAD_VALUE,
            x.document(0, -1), x.document(59, 4), x.document(1, LEAST), x.document(1, MOST));
        Check.due("0", x.document(0, 0), 0);
        Check.due("3", x.document(0, 3), NONE);
    }

    private static void runWanted() {
        wantedBestFirst();
        wantedAll();
        wantedBadValue();
        wantedNone();
    }

    private static void wantedBestFirst() {
        Place.in("Promise 21", "`place`: from 0, the best one first");
        BribedClerks x = office();
        x.want(10);
        Check.row("of values 190 180 90 80",
            new int[] {x.wanted(0), x.wanted(1), x.wanted(2), x.wanted(3)}, 3, 2, 1, 59);
    }

    private static void wantedAll() {
        Place.in("Promise 21", "Tells a document that the question wants, by looking at all");
        BribedClerks x = office();
        x.begin(0, false);
        Check.due("nothing is read yet", x.reading(4), 0);
        Check.row("in a reading", new int[] {x.wanted(0), x.wanted(1)}, 3, 2);
        x.step(1);
        Check.due("told", x.told(0), 1);
        Check.due("wanted", x.wanted(0), 3);
    }

    private static void wantedBadValue() {
        Place.in("Promise 21", "BAD_VALUE if place is negative");
        BribedClerks x = office();
        Check.each("places", BAD_VALUE, x.wanted(-1), x.wanted(-5), x.wanted(LEAST));
        Check.each("ahead of NONE", BAD_VALUE, new BribedClerks().wanted(-1));
    }

    private static void wantedNone() {
        Place.in("Promise 21", "NONE if there are not so many");
        BribedClerks x = office();
        Check.each("behind the k", NONE, x.wanted(2), x.wanted(10), x.wanted(MOST));
        x.want(10);
        Check.each("behind all of them", NONE, x.wanted(4), x.wanted(9), x.wanted(59), x.wanted(60));
        Check.each("of a new office", NONE, new BribedClerks().wanted(0));
    }

    // ---- promise 22

    private static void runClerk() {
        clerkNumbers();
        clerkUnknown();
        clerkBadValue();
        clerkNotPossible();
        clerkNone();
    }

    private static void clerkNumbers() {
        Place.in("Promise 22", "3 for whether the clerk was caught (1, otherwise 0), 4 for look-ups in it");
        BribedClerks x = office();
        x.bribe(0, 15);
        x.bribe(2, 55);
        x.begin(0, true);
        Check.row("list 0", Answers.clerk(x, 0), 0, 75, 90, 0, 0);
        Check.row("list 2", Answers.clerk(x, 2), 0, 5, 60, 0, 0);
        Check.row("the empty list", Answers.clerk(x, 3), 0, 0, 0, 0, 0);
        x.step(1);
        Check.row("list 0 has read", Answers.clerk(x, 0), 1, 80, 80, 1, 0);
        Check.row("list 2 was looked up in", Answers.clerk(x, 2), 0, 5, 60, 0, 1);
        Check.row("the empty list too", Answers.clerk(x, 3), 0, 0, 0, 0, 1);
        x.step(1);
        Check.row("list 0 was looked up in", Answers.clerk(x, 0), 1, 80, 80, 1, 1);
        Check.row("list 2 has read", Answers.clerk(x, 2), 1, 50, 50, 1, 1);
    }

    private static void clerkUnknown() {
        Place.in("Promise 22", "UNKNOWN");
        BribedClerks x = office();
        Check.each("ahead of no reading", UNKNOWN, x.clerk(-1, 0), x.clerk(6, 0), x.clerk(6, 5));
        x.begin(0, false);
        Check.each("lists", UNKNOWN, x.clerk(-1, 0), x.clerk(6, 4), x.clerk(LEAST, 0), x.clerk(MOST, 0));
        Check.each("ahead of a bad what", UNKNOWN, x.clerk(-1, -1), x.clerk(6, 5));
    }

    private static void clerkBadValue() {
        Place.in("Promise 22", "BAD_VALUE");
        BribedClerks x = office();
        Check.each("ahead of no reading", BAD_VALUE, x.clerk(0, -1), x.clerk(5, 5));
        x.begin(0, false);
        Check.each("what", BAD_VALUE, x.clerk(0, -1), x.clerk(0, 5), x.clerk(0, LEAST), x.clerk(0, MOST));
        Check.each("ahead of NONE", BAD_VALUE, x.clerk(1, -1), x.clerk(5, 5));
    }

    private static void clerkNotPossible() {
        Place.in("Promise 22", "NOT_POSSIBLE if no reading is on");
        BribedClerks x = office();
        Check.each("before one", NOT_POSSIBLE, x.clerk(0, 0), x.clerk(0, 4));
        Check.each("ahead of NONE", NOT_POSSIBLE, x.clerk(1, 0), x.clerk(5, 4));
        x.begin(0, false);
        Check.due("in one", x.clerk(0, 0), 0);
        x.step(240);
        Check.due("in one that is over", x.clerk(0, 3), 0);
        x.end();
        Check.each("after one", NOT_POSSIBLE, x.clerk(0, 0), x.clerk(1, 0));
    }

    private static void clerkNone() {
        Place.in("Promise 22", "NONE if the list does not belong to the question");
        BribedClerks x = office();
        x.begin(0, true);
        for (int what = 0; what < 5; what++) {
            Check.each("lists 1, 4 and 5", NONE, x.clerk(1, what), x.clerk(4, what), x.clerk(5, what));
        }
        Check.due("an empty list does", x.clerk(3, 0), 0);
    }

    // ---- promises 23 and 24

    private static void runSeen() {
        seenNumbers();
        seenFrom0();
        seenUnknown();
        seenBadValue();
        seenNotPossible();
        seenNone();
    }

    private static void seenNumbers() {
        Place.in("Promise 23", "2 for the lists of the question in which its score is known (as bits)");
        BribedClerks x = office();
        x.add(5, 1, 7);
        x.weight(5, 1);
        x.begin(0, false);
        x.step(1);
        Check.row("list 0, and the empty one", Answers.seen(x, 1), 90, 90 + 120 + 7, 1 + 8, 0, 0);
        x.step(2);
        Check.row("list 5 too", Answers.seen(x, 1), 97, 97 + 100, 1 + 8 + 32, 1, 0);
        Check.row("document 3", Answers.seen(x, 3), 120, 120 + 80, 4 + 8 + 32, 0, 1);
        x.end();
        x.begin(0, true);
        x.step(1);
        Check.row("all of the question, looked up", Answers.seen(x, 1), 97, 97, 1 + 4 + 8 + 32, 0, 0);
    }

    private static void seenFrom0() {
        Place.in("Promise 23",
            "3 for its place in the front, from 0, 4 for the step in which it was seen first, from 0");
        BribedClerks x = office();
        x.want(10);
        x.delete(1);
        x.begin(0, false);
        int[] steps = {NONE, 2, 1, 5};
        int[] documents = {1, 2, 3, 59};
        x.step(2);
        Check.row("the first place and step", new int[] {x.seen(3, 3), x.seen(3, 4)}, 0, 1);
        x.step(240);
        for (int i = 0; i < documents.length; i++) {
            Check.due("the first step of " + documents[i], x.seen(documents[i], 4), steps[i]);
        }
        Check.row("places", new int[] {x.seen(3, 3), x.seen(2, 3), x.seen(59, 3)}, 0, 1, 2);
    }

    private static void seenUnknown() {
        Place.in("Promise 23", "UNKNOWN");
        BribedClerks x = office();
        Check.each("ahead of no reading", UNKNOWN, x.seen(-1, 0), x.seen(60, 0), x.seen(60, 5));
        x.begin(0, false);
        Check.each("documents", UNKNOWN, x.seen(-1, 0), x.seen(60, 4), x.seen(LEAST, 0), x.seen(MOST, 0));
        Check.each("ahead of a bad what", UNKNOWN, x.seen(-1, -1), x.seen(60, 5));
    }

    private static void seenBadValue() {
        Place.in("Promise 23", "BAD_VALUE");
        BribedClerks x = office();
        Check.each("ahead of no reading", BAD_VALUE, x.seen(0, -1), x.seen(59, 5));
        x.begin(0, false);
        Check.each("ahead of NONE", BAD_VALUE, x.seen(1, -1), x.seen(1, 5));
        x.step(1);
        Check.each("what", BAD_VALUE, x.seen(1, -1), x.seen(1, 5), x.seen(1, LEAST), x.seen(1, MOST));
        Check.each("0 and 4", 0, x.seen(1, 4), x.seen(1, 3));
    }

    private static void seenNotPossible() {
        Place.in("Promise 23", "NOT_POSSIBLE if no reading is on");
        BribedClerks x = office();
        Check.each("before one", NOT_POSSIBLE, x.seen(1, 0), x.seen(59, 4));
        x.begin(0, false);
        x.step(1);
        Check.due("in one", x.seen(1, 0), 90);
        x.end();
        Check.each("after one", NOT_POSSIBLE, x.seen(1, 0), x.seen(2, 0));
    }

    private static void seenNone() {
        Place.in("Promise 23", "NONE if it is not seen");
        BribedClerks x = office();
        x.want(10);
        x.delete(2);
        x.begin(0, true);
        Check.each("none is seen", NONE, x.seen(1, 0), x.seen(0, 4));
        x.step(1);
        Check.due("seen", x.seen(1, 0), 90);
        for (int what = 0; what < 5; what++) {
            Check.each("not seen", NONE, x.seen(0, what), x.seen(3, what), x.seen(59, what));
        }
        x.step(240);
        Check.each("deleted, in no list, in no list of the question", NONE,
            x.seen(2, 0), x.seen(0, 0), x.seen(4, 0));
    }

    private static void runTold() {
        toldFrom0();
        toldBadValue();
        toldNotPossible();
        toldNone();
    }

    private static void toldFrom0() {
        Place.in("Promise 24", "`place`: a place among the documents that are told, from 0");
        BribedClerks x = office();
        x.want(10);
        x.begin(0, false);
        x.step(240);
        Check.row("of values 190 180 90 80",
            new int[] {x.told(0), x.told(1), x.told(2), x.told(3), x.told(4)}, 3, 2, 1, 59, NONE);
    }

    private static void toldBadValue() {
        Place.in("Promise 24", "BAD_VALUE if place is negative");
        BribedClerks x = office();
        Check.each("ahead of no reading", BAD_VALUE, x.told(-1), x.told(LEAST));
        x.begin(0, false);
        Check.each("ahead of NONE", BAD_VALUE, x.told(-1), x.told(LEAST));
        x.step(1);
        Check.each("places", BAD_VALUE, x.told(-1), x.told(-5), x.told(LEAST));
    }

    private static void toldNotPossible() {
        Place.in("Promise 24", "NOT_POSSIBLE if no reading is on");
        BribedClerks x = office();
        Check.each("before one, ahead of NONE", NOT_POSSIBLE, x.told(0), x.told(MOST));
        x.begin(0, false);
        x.step(1);
        Check.due("in one", x.told(0), 1);
        x.end();
        Check.each("after one", NOT_POSSIBLE, x.told(0), x.told(9));
    }

    private static void toldNone() {
        Place.in("Promise 24", "NONE if there are not so many");
        BribedClerks x = office();
        x.begin(0, false);
        Check.each("none is seen", NONE, x.told(0), x.told(1), x.told(MOST));
        x.step(1);
        Check.row("one is seen", new int[] {x.told(0), x.told(1)}, 1, NONE);
        x.step(240);
        Check.due("seen", x.reading(4), 3);
        Check.row("k are told", new int[] {x.told(0), x.told(1), x.told(2)}, 3, 2, NONE);
        Check.each("far off", NONE, x.told(59), x.told(60), x.told(MOST));
    }

    // ---- promise 25

    private static void runReading() {
        readingNumbers();
        readingCost();
        readingOver();
        readingNext();
        readingLastLow();
        readingNotWanted();
        readingCaught();
        readingTellingLess();
        readingBadValue();
        readingNotPossible();
    }

    private static void readingNumbers() {
        Place.in("Promise 25", "0 for the steps that were done, 1 for wasted ones, 2 for look-ups");
        BribedClerks x = office();
        x.bribe(0, 30);
        x.bribe(1, 500);
        x.bribe(2, 500);
        x.bribe(3, 500);
        x.delete(3);
        x.begin(0, true);
        Check.row("before the first step", Answers.reading(x), 0, 0, 0, 0, 0, 0, 0, 0, 60, 0, 0, 0, 2);
        x.step(1);
        Check.row("one seen", Answers.reading(x), 1, 0, 2, 7, 1, 1, 0, 2, 80, 90, 1, 0, 1);
        x.step(1);
        Check.row("one wasted", Answers.reading(x), 2, 1, 2, 8, 1, 1, 0, 0, 80 + 100, 90, 2, 0, 0);
        x.step(1);
        Check.row("two seen", Answers.reading(x), 3, 1, 4, 15, 2, 2, 0, 2, 70 + 100, 90, 2, 0, 0);
    }

    private static void readingCost() {
        Place.in("Promise 25", "3 for its cost (a step costs 1, a look-up 3)");
        BribedClerks x = office();
        x.want(10);
        x.begin(0, true);
        int[] due = {0, 7, 14, 21, 22, 23, 30};
        for (int steps = 0; steps < due.length; steps++) {
            Check.due("behind " + steps + " steps", x.reading(3), due[steps]);
            x.step(1);
        }
        x.end();
        x.begin(0, false);
        x.step(5);
        Check.due("without looking up", x.reading(3), 5);
    }

    private static void readingOver() {
        Place.in("Promise 25", "6 for whether it is over (1, otherwise 0)");
        BribedClerks x = office();
        x.begin(0, true);
        for (int step = 0; step < 3; step++) {
            Check.due("behind " + step + " steps", x.reading(6), 0);
            x.step(1);
        }
        Check.due("over", x.reading(6), 1);
        Check.due("entries are left", x.clerk(0, 2) + x.clerk(2, 2), 70 + 50);
    }

    private static void readingNext() {
        Place.in("Promise 25", "7 for the list that would be read next (NONE if it is over)");
        BribedClerks x = office();
        x.begin(0, true);
        int[] due = {0, 2, 0, NONE};
        for (int list : due) {
            Check.due("next", x.reading(7), list);
            x.step(1);
        }
        x.end();
        x.want(10);
        x.begin(2, false);
        x.step(5);
        Check.due("the last entry", x.reading(7), 2);
        x.step(1);
        Check.due("no entry", x.reading(7), NONE);
    }

    private static void readingLastLow() {
        Place.in("Promise 25", "9 for the low value of the last document that is told (0 if none is)");
        BribedClerks x = office();
        x.begin(0, false);
        int[] due = {0, 90, 90, 90, 120, 180};
        for (int steps = 0; steps < due.length; steps++) {
            Check.due("behind " + steps + " steps", x.reading(9), due[steps]);
            x.step(1);
        }
        x.end();
        x.delete(1);
        x.begin(0, false);
        x.step(1);
        Check.due("behind a wasted step", x.reading(9), 0);
    }

    private static void readingNotWanted() {
        Place.in("Promise 25", "11 for the documents that are told but not wanted by looking at all");
        BribedClerks x = office();
        x.begin(0, false);
        int[] due = {0, 1, 1, 1, 0, 0};
        for (int steps = 0; steps < due.length; steps++) {
            Check.due("behind " + steps + " steps", x.reading(11), due[steps]);
            x.step(1);
        }
        BribedClerks two = Check.office(new int[][] {
            {0, 1, 9}, {0, 2, 8}, {0, 3, 7}, {0, 4, 6}, {1, 4, 5}, {1, 3, 5}});
        two.weight(0, 1);
        two.weight(1, 1);
        two.bribe(1, 500);
        two.want(2);
        two.begin(1, false);
        two.step(240);
        Check.row("told, of values 9 8 12 11", new int[] {two.told(0), two.told(1)}, 1, 2);
        Check.due("none of them is wanted", two.reading(11), 2);
    }

    private static void readingTellingLess() {
        Place.in("Promise 25", "12 for clerks who tell less than the bound as it is");
        BribedClerks x = new BribedClerks();
        for (int list = 0; list < 6; list++) {
            x.add(list, list, 9);
            x.add(list, 10 + list, 9);
            x.bribe(list, list == 2 ? 0 : 1);
            x.weight(list, list == 4 ? 0 : 1);
        }
        x.want(10);
        x.begin(0, false);
        int[] due = {4, 3, 2, 2, 1, 0, 0};
        for (int steps = 0; steps < due.length; steps++) {
            Check.due("behind " + steps + " steps", x.reading(12), due[steps]);
            x.step(1);
        }
        x.step(240);
        Check.due("behind all", x.reading(12), 0);
    }

    private static void readingCaught() {
        Place.in("Promise 25", "10 for clerks that were caught, 11");
        BribedClerks x = office();
        x.bribe(0, 1);
        x.bribe(1, 1);
        x.bribe(2, 500);
        x.bribe(3, 1);
        x.begin(0, false);
        int[] caught = {0, 1, 2, 2};
        for (int steps = 0; steps < caught.length; steps++) {
            Check.due("caught behind " + steps + " steps", x.reading(10), caught[steps]);
            x.step(1);
        }
    }

    private static void readingBadValue() {
        Place.in("Promise 25", "BAD_VALUE");
        BribedClerks x = office();
        Check.each("ahead of no reading", BAD_VALUE, x.reading(-1), x.reading(13));
        x.begin(0, false);
        Check.each("what", BAD_VALUE, x.reading(-1), x.reading(13), x.reading(LEAST), x.reading(MOST));
        Check.row("0 and 12", new int[] {x.reading(0), x.reading(12)}, 0, 0);
    }

    private static void readingNotPossible() {
        Place.in("Promise 25", "NOT_POSSIBLE if no reading is on");
        BribedClerks x = office();
        for (int what = 0; what < 13; what++) {
            Check.due("before one, " + what, x.reading(what), NOT_POSSIBLE);
        }
        x.begin(0, false);
        Check.due("in one", x.reading(0), 0);
        x.step(240);
        Check.due("in one that is over", x.reading(6), 1);
        x.end();
        for (int what = 0; what < 13; what++) {
            Check.due("after one, " + what, x.reading(what), NOT_POSSIBLE);
        }
    }

    // ---- promises 26 and 27

    private static void runTrial() {
        trialBeginsNow();
        trialWay();
        trialWhat();
        trialBadValue();
        trialNotPossible();
        trialOfEmptyLists();
    }

    private static void trialBeginsNow() {
        Place.in("Promise 26", "Tells how a reading of the question would go that began now");
        BribedClerks x = office();
        x.bribe(0, 5);
        x.begin(0, false);
        x.step(3);
        int[] before = Answers.reading(x);
        Check.due("in a reading, from its beginning", x.trial(0, false, 0), 5);
        Check.due("caught anew", x.trial(0, false, 3), 1);
        Check.row("the reading stays", Answers.reading(x), before);
        Check.row("begun, caught in all, states", new int[] {x.count(6), x.count(7), x.count(8)}, 1, 1, 4);
        x.end();
        Check.due("the same without one", x.trial(0, false, 0), 5);
        Check.due("no reading is on", x.count(5), 0);
    }

    private static void trialWay() {
        Place.in("Promise 26", "`way`: 0 to 2");
        BribedClerks x = office();
        int[][] steps = {{5, 3}, {6, 2}, {5, 3}};
        for (int way = 0; way < 3; way++) {
            Check.row("steps by the way " + way,
                new int[] {x.trial(way, false, 0), x.trial(way, true, 0)}, steps[way]);
        }
        Check.each("-1 and 3", BAD_VALUE, x.trial(-1, false, 0), x.trial(3, false, 0));
    }

    private static void trialWhat() {
        Place.in("Promise 26", "`what`: 0 for its steps until it is over, 1 for its cost");
        BribedClerks x = Check.office(new int[][] {
            {0, 1, 100}, {0, 3, 80}, {1, 2, 99}, {1, 3, 80}, {2, 4, 1}});
        x.weight(0, 1);
        x.weight(1, 1);
        x.want(1);
        Check.row("honest", Answers.trial(x, 0, false), 4, 4, 0, 0);
        Check.row("honest, looking up", Answers.trial(x, 0, true), 3, 3 + 9, 0, 0);
        x.bribe(0, 500);
        x.bribe(1, 500);
        x.bribe(2, 500);
        Check.row("bribed", Answers.trial(x, 0, false), 1, 1, 1, 1);
        Check.row("bribed, looking up", Answers.trial(x, 0, true), 1, 4, 1, 1);
        x.want(3);
        Check.row("bribed, three wanted", Answers.trial(x, 0, true), 3, 12, 0, 2);
        Check.each("-1 and 4", BAD_VALUE, x.trial(0, false, -1), x.trial(0, false, 4));
    }

    private static void trialBadValue() {
        Place.in("Promise 26", "BAD_VALUE (way or what)");
        BribedClerks none = new BribedClerks();
        BribedClerks x = office();
        int[] ways = {-1, 3, LEAST, MOST};
        int[] whats = {-1, 4, LEAST, MOST};
        for (int i = 0; i < 4; i++) {
            Check.each("way", BAD_VALUE, x.trial(ways[i], true, 0), none.trial(ways[i], false, 3));
            Check.each("what", BAD_VALUE, x.trial(0, true, whats[i]), none.trial(2, false, whats[i]));
        }
    }

    private static void trialNotPossible() {
        Place.in("Promise 26", "NOT_POSSIBLE if no list belongs to the question");
        BribedClerks x = Check.office(new int[][] {{0, 1, 5}});
        Check.each("none", NOT_POSSIBLE, x.trial(0, false, 0), x.trial(2, true, 3));
        x.weight(0, 1);
        Check.due("one", x.trial(0, false, 0), 1);
        x.weight(0, 0);
        Check.due("none again", x.trial(0, false, 0), NOT_POSSIBLE);
        Check.due("ahead of it the way", x.trial(3, false, 0), BAD_VALUE);
    }

    private static void trialOfEmptyLists() {
        Place.in("Promise 26", "0 for its steps until it is over");
        BribedClerks x = new BribedClerks();
        x.weight(5, 9);
        for (int what = 0; what < 4; what++) {
            Check.due("of empty lists, " + what, x.trial(what % 3, true, what), 0);
        }
        for (int list = 0; list < 6; list++) {
            x.weight(list, 9);
            for (int document = 0; document < 40; document++) {
                x.add(list, document, 999);
            }
        }
        for (int document = 0; document < 40; document++) {
            x.delete(document);
        }
        Check.due("of full ones, all wasted", x.trial(1, true, 0), 240);
        Check.due("cost", x.trial(1, true, 1), 240);
    }

    private static void runCheapest() {
        cheapestOfSix();
        lowestOfSeveral();
        cheapestNotPossible();
    }

    private static void cheapestOfSix() {
        Place.in("Promise 27", "as 2 * way + 1 if it looks up, otherwise 2 * way");
        int[][][] lists = {
            {{0, 1, 99}, {0, 2, 40}, {0, 3, 39}, {0, 4, 38}, {1, 1, 90}, {1, 5, 40}, {1, 6, 39}},
            {{0, 1, 100}, {0, 2, 50}, {0, 3, 49}, {0, 4, 48}, {0, 5, 47}, {0, 6, 46}, {0, 7, 45},
                {1, 8, 60}, {1, 9, 59}, {1, 10, 58}, {1, 11, 57}, {1, 12, 56}, {1, 13, 55}, {1, 1, 54}},
            {{0, 1, 5}, {0, 2, 4}, {0, 3, 3}, {1, 10, 900}, {1, 11, 1}},
            {{0, 8, 60}, {0, 9, 59}, {0, 10, 58}, {0, 11, 57}, {0, 12, 56}, {0, 1, 50},
                {1, 1, 100}, {1, 2, 50}, {1, 3, 49}, {1, 4, 48}, {1, 5, 47}, {1, 6, 46}, {1, 7, 45}},
            {{0, 5, 30}, {0, 6, 29}, {1, 7, 30}, {1, 8, 29}, {2, 1, 100}},
            {{0, 2, 60}, {0, 3, 59}, {0, 4, 58}, {0, 5, 57}, {0, 6, 56}, {0, 7, 55}, {0, 1, 40},
                {1, 1, 50}, {1, 9, 1}}};
        int[] costs = {2, 4, 1, 4, 1, 4};
        for (int number = 0; number < lists.length; number++) {
            BribedClerks x = Check.office(lists[number]);
            for (int list = 0; list < 3; list++) {
                x.weight(list, Math.min(1, x.list(list, 0)));
            }
            x.bribe(2, 100);
            x.want(1);
            Check.due("the cheapest", x.cheapest(), number);
            for (int other = 0; other < 6; other++) {
                int cost = x.trial(other / 2, other % 2 == 1, 1);
                Check.holds("the cost of " + other + " beside " + number + " is " + cost,
                    other < number ? cost > costs[number] : cost >= costs[number]);
            }
            Check.due("its cost", x.trial(number / 2, number % 2 == 1, 1), costs[number]);
        }
    }

    private static void lowestOfSeveral() {
        Place.in("Promise 27", "the lowest number of several");
        BribedClerks x = Check.office(new int[][] {{0, 1, 5}});
        x.weight(0, 1);
        Check.due("all cost 1", x.cheapest(), 0);
        BribedClerks empty = new BribedClerks();
        empty.weight(5, 1);
        Check.due("all cost 0", empty.cheapest(), 0);
    }

    private static void cheapestNotPossible() {
        Place.in("Promise 27", "NOT_POSSIBLE if no list belongs to the question");
        BribedClerks x = Check.office(new int[][] {{0, 1, 5}});
        Check.due("none", x.cheapest(), NOT_POSSIBLE);
        x.weight(0, 1);
        Check.due("one", x.cheapest(), 0);
        x.weight(0, 0);
        Check.due("none again", x.cheapest(), NOT_POSSIBLE);
    }

    // ---- promise 28

    private static void runCount() {
        countNumbers();
        countOfReadings();
        countBadValue();
    }

    private static void countNumbers() {
        Place.in("Promise 28", "`what`: 0 for entries in all lists, 1 for lists of the question");
        BribedClerks x = new BribedClerks();
        int[] first = {0, 0, 3, 0, 0, 0, 0, 0, 0, 0};
        for (int what = 0; what < 10; what++) {
            Check.due("at first, " + what, x.count(what), first[what]);
        }
        x = office();
        x.delete(0);
        x.delete(59);
        x.want(10);
        x.type('a');
        int[] due = {7, 3, 10, 2, 3, 0, 0, 0, 4, 1};
        for (int what = 0; what < 10; what++) {
            Check.due("count " + what, x.count(what), due[what]);
        }
    }

    private static void countOfReadings() {
        Place.in("Promise 28",
            "5 for whether a reading is on (1, otherwise 0), 6 for readings that were begun");
        BribedClerks x = office();
        x.bribe(0, 1);
        x.bribe(2, 1);
        int[] caught = {2, 3};
        for (int round = 0; round < 2; round++) {
            x.begin(round, true);
            Check.row("begun", new int[] {x.count(5), x.count(6), x.count(7)}, 1, round + 1, 2 * round);
            x.step(240);
            Check.row("read", new int[] {x.count(5), x.count(6), x.count(7)}, 1, round + 1, caught[round]);
            x.end();
            Check.row("ended", new int[] {x.count(5), x.count(6), x.count(7)}, 0, round + 1, caught[round]);
        }
    }

    private static void countBadValue() {
        Place.in("Promise 28", "BAD_VALUE");
        BribedClerks x = new BribedClerks();
        Check.each("what", BAD_VALUE, x.count(-1), x.count(10), x.count(LEAST), x.count(MOST));
        Check.each("0 and 9", 0, x.count(0), x.count(9));
    }
}
