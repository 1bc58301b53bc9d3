/** Each boundary that LISTS, THE QUESTION and the promises 1 to 8 name, a test each. */
final class ListBoundariesTest {
    private static final int UNKNOWN = BribedClerks.UNKNOWN;
    private static final int BAD_VALUE = BribedClerks.BAD_VALUE;
    private static final int FULL = BribedClerks.FULL;
    private static final int NOT_POSSIBLE = BribedClerks.NOT_POSSIBLE;
    private static final int NONE = BribedClerks.NONE;
    private static final int LEAST = Integer.MIN_VALUE;
    private static final int MOST = Integer.MAX_VALUE;

    private ListBoundariesTest() {
    }

    static void run() {
        runLists();
        runQuestion();
        runNewObject();
        runAdd();
        runDrop();
        runDelete();
        runBring();
        runWeight();
        runWant();
        runBribe();
    }

    /** An office with the entry of document 1 in list 0, in which a reading of list 0 is on. */
    private static BribedClerks reading() {
        BribedClerks x = Check.office(new int[][] {{0, 1, 30}});
        x.weight(0, 1);
        x.begin(0, false);
        return x;
    }

    private static BribedClerks fullList(int list) {
        BribedClerks x = new BribedClerks();
        for (int document = 0; document < 40; document++) {
            x.add(list, document, 500 - document);
        }
        return x;
    }

    private static int[] documentsOf(BribedClerks x, int list) {
        int[] documents = new int[x.list(list, 0)];
        for (int place = 0; place < documents.length; place++) {
            documents[place] = x.entry(list, place, 0);
        }
        return documents;
    }

    // ---- LISTS

    private static void runLists() {
        documentsAndLists();
        listHasFortyEntries();
        documentOnceInList();
        scoreOfEntry();
        greatestFirst();
        sameScoreLowerFirst();
        deletedStayButAreNoAnswer();
    }

    private static void documentsAndLists() {
        Place.in("LISTS", "There are 60 documents, numbered from 0, and 6 lists, numbered from 0");
        BribedClerks x = new BribedClerks();
        for (int document = 0; document < 60; document++) {
            Check.due("add document " + document, x.add(document % 6, document, 1), document / 6);
        }
        Check.each("document(60), document(-1)", UNKNOWN, x.document(60, 0), x.document(-1, 0));
        Check.each("list(6), list(-1)", UNKNOWN, x.list(6, 0), x.list(-1, 0));
        Check.due("entries", x.count(0), 60);
        Check.due("the first list", x.list(0, 0), 10);
        Check.due("the last list", x.list(5, 0), 10);
    }

    private static void listHasFortyEntries() {
        Place.in("LISTS", "A list has at most 40 entries");
        BribedClerks x = new BribedClerks();
        for (int list = 0; list < 6; list++) {
            for (int i = 0; i < 40; i++) {
                Check.due("list " + list + ", entry " + i, x.add(list, list + i, 900 - i), i);
            }
            Check.due("list " + list + ", entry 40", x.add(list, 59, 1), FULL);
        }
        for (int list = 0; list < 6; list++) {
            Check.due("entries", x.list(list, 0), 40);
            Check.due("the first one", x.entry(list, 0, 0), list);
            Check.due("the last one", x.entry(list, 39, 0), list + 39);
        }
        Check.due("entries in all", x.count(0), 240);
    }

    private static void documentOnceInList() {
        Place.in("LISTS", "(each at most once in a list)");
        BribedClerks x = Check.office(new int[][] {{2, 7, 30}, {2, 8, 20}, {3, 7, 30}});
        Check.due("another score", x.add(2, 7, 10), 1);
        Check.row("documents", documentsOf(x, 2), 8, 7);
        Check.due("entries", x.list(2, 0), 2);
        Check.due("score", x.entry(2, 1, 1), 10);
        Check.due("nothing behind", x.entry(2, 2, 0), NONE);
        Check.due("it stands in the other list too", x.entry(3, 0, 1), 30);
    }

    private static void scoreOfEntry() {
        Place.in("LISTS", "and a score from 1 to 999");
        BribedClerks x = new BribedClerks();
        Check.each("1 and 999", 0, x.add(0, 1, 1), x.add(0, 2, 999));
        Check.each("0 and 1000", BAD_VALUE, x.add(0, 3, 0), x.add(0, 3, 1000));
        Check.due("the greatest one", x.entry(0, 0, 1), 999);
        Check.due("the least one", x.entry(0, 1, 1), 1);
        Check.due("no more", x.list(0, 0), 2);
    }

    private static void greatestFirst() {
        Place.in("LISTS", "The entries of a list are in the order of their scores, the greatest first");
        BribedClerks x = Check.office(new int[][] {
            {0, 1, 500}, {0, 2, 501}, {0, 3, 499}, {0, 4, 999}, {0, 5, 1}, {0, 6, 500 + 250}});
        Check.row("documents", documentsOf(x, 0), 4, 6, 2, 1, 3, 5);
    }

    private static void sameScoreLowerFirst() {
        Place.in("LISTS", "of the same score, the one with the lower document first");
        BribedClerks x = Check.office(new int[][] {
            {0, 30, 5}, {0, 59, 5}, {0, 0, 5}, {0, 29, 5}, {0, 31, 5}, {0, 58, 6}, {0, 1, 4}});
        Check.row("documents", documentsOf(x, 0), 58, 0, 29, 30, 31, 59, 1);
        x.add(0, 58, 5);
        x.add(0, 1, 5);
        Check.row("moved from both ends", documentsOf(x, 0), 0, 1, 29, 30, 31, 58, 59);
    }

    private static void deletedStayButAreNoAnswer() {
        Place.in("LISTS", "its entries stay in the lists, but it is no answer any more");
        BribedClerks x = Check.office(new int[][] {{0, 0, 30}, {0, 59, 20}, {1, 0, 5}});
        x.weight(0, 1);
        Check.due("document 0 is wanted", x.wanted(0), 0);
        x.delete(0);
        x.delete(59);
        Check.row("entries", documentsOf(x, 0), 0, 59);
        Check.due("entries in all", x.count(0), 3);
        Check.due("none is wanted", x.wanted(0), NONE);
        x.begin(0, false);
        Check.due("step", x.step(240), 2);
        Check.due("none is told", x.end(), 0);
    }

    // ---- THE QUESTION

    private static void runQuestion() {
        weightOfList();
        weightZero();
        valueOfDocument();
        numberOfBest();
        valueAboveZero();
        deletedIsNotWanted();
        greatestValues();
        sameValueLowerFirst();
        fewerThanWanted();
    }

    private static void weightOfList() {
        Place.in("THE QUESTION", "Each list has a weight from 0 to 9 (at first 0)");
        BribedClerks x = new BribedClerks();
        for (int list = 0; list < 6; list++) {
            Check.due("at first", x.list(list, 1), 0);
            Check.due("9", x.weight(list, 9), 0);
            Check.each("-1 and 10", BAD_VALUE, x.weight(list, -1), x.weight(list, 10));
            Check.due("it is 9", x.list(list, 1), 9);
            Check.due("0", x.weight(list, 0), 9);
            Check.due("it is 0", x.list(list, 1), 0);
        }
    }

    private static void weightZero() {
        Place.in("THE QUESTION", "a list with the weight 0 does not belong to the question");
        BribedClerks x = Check.office(new int[][] {{0, 1, 900}, {1, 1, 5}, {2, 2, 900}});
        x.weight(1, 1);
        Check.due("lists of the question", x.count(1), 1);
        Check.due("value", x.document(1, 1), 5);
        x.begin(0, true);
        Check.each("clerks", NONE, x.clerk(0, 0), x.clerk(2, 1), x.clerk(5, 4));
        Check.due("the list with the weight 1 belongs to it", x.clerk(1, 0), 0);
        Check.due("the sum", x.reading(8), 5);
        x.step(240);
        Check.due("steps", x.reading(0), 1);
        Check.due("look-ups", x.reading(2), 0);
    }

    private static void valueOfDocument() {
        Place.in("THE QUESTION", "the sum of weight * score over all lists that have it");
        BribedClerks x = new BribedClerks();
        for (int list = 0; list < 6; list++) {
            x.weight(list, 9);
            Check.due("in no list", x.document(2, 1), 0);
            x.add(list, 1, 999);
            Check.due("in " + (list + 1) + " lists", x.document(1, 1), (list + 1) * 8991);
        }
        x.weight(5, 1);
        x.weight(4, 0);
        Check.due("other weights", x.document(1, 1), 4 * 8991 + 999);
    }

    private static void numberOfBest() {
        Place.in("THE QUESTION", "the k best documents (1 to 10, at first 3)");
        BribedClerks x = new BribedClerks();
        for (int document = 0; document < 11; document++) {
            x.add(0, document, 50 - document);
        }
        x.weight(0, 1);
        int[] ks = {3, 1, 10};
        int[] due = {NONE, 3, 1};
        for (int i = 0; i < ks.length; i++) {
            int k = ks[i];
            Check.due("want " + k, x.want(k), due[i]);
            Check.due("how many", x.count(4), k);
            Check.due("the last one", x.wanted(k - 1), k - 1);
            Check.due("no more", x.wanted(k), NONE);
        }
        Check.each("0 and 11", BAD_VALUE, x.want(0), x.want(11));
    }

    private static void valueAboveZero() {
        Place.in("THE QUESTION", "and have a value above 0");
        BribedClerks x = Check.office(new int[][] {{0, 1, 1}, {1, 2, 999}});
        x.weight(0, 1);
        Check.due("a value of 1", x.wanted(0), 1);
        Check.due("a value of 0", x.wanted(1), NONE);
        Check.due("its place", x.document(2, 3), NONE);
        Check.due("how many", x.count(4), 1);
    }

    private static void deletedIsNotWanted() {
        Place.in("THE QUESTION", "those that are not deleted");
        BribedClerks x = Check.office(new int[][] {{0, 0, 9}, {0, 1, 8}, {0, 2, 7}});
        x.weight(0, 1);
        x.want(2);
        x.delete(0);
        Check.row("wanted", new int[] {x.wanted(0), x.wanted(1), x.wanted(2)}, 1, 2, NONE);
        Check.due("place of the deleted one", x.document(0, 3), NONE);
        x.delete(2);
        Check.due("how many", x.count(4), 1);
        x.bring(0);
        Check.due("brought back", x.wanted(0), 0);
        BribedClerks least = Check.office(new int[][] {{0, 0, 9}, {0, 58, 1}, {0, 59, 1}});
        least.weight(0, 1);
        least.delete(0);
        least.delete(58);
        Check.due("a value of 1 behind two deleted ones", least.wanted(0), 59);
        Check.due("its place", least.document(59, 3), 0);
    }

    private static void greatestValues() {
        Place.in("THE QUESTION", "with the greatest values");
        BribedClerks x = Check.office(new int[][] {
            {0, 0, 10}, {0, 1, 11}, {0, 2, 12}, {1, 3, 3}, {1, 0, 1}});
        x.weight(0, 1);
        x.weight(1, 4);
        Check.row("wanted, of values 14, 11, 12, 12",
            new int[] {x.wanted(0), x.wanted(1), x.wanted(2), x.wanted(3)}, 0, 2, 3, NONE);
        x.want(1);
        Check.due("one", x.wanted(0), 0);
        Check.due("the second", x.document(2, 3), NONE);
    }

    private static void sameValueLowerFirst() {
        Place.in("THE QUESTION", "of the same value, the lower document is better");
        BribedClerks x = Check.office(new int[][] {{0, 59, 6}, {1, 58, 4}, {2, 0, 2}, {2, 1, 2}});
        x.weight(0, 2);
        x.weight(1, 3);
        x.weight(2, 6);
        Check.row("wanted, of 12 each", new int[] {x.wanted(0), x.wanted(1), x.wanted(2)}, 0, 1, 58);
        Check.due("the highest one is not", x.document(59, 3), NONE);
    }

    private static void fewerThanWanted() {
        Place.in("THE QUESTION", "If there are fewer than k, it wants all of them");
        BribedClerks x = new BribedClerks();
        x.weight(0, 1);
        int[] due = {0, 1, 2, 3, 3};
        for (int document = 0; document < due.length; document++) {
            Check.due("with " + document + " documents", x.count(4), due[document]);
            Check.due("wanted", x.wanted(document), NONE);
            x.add(0, document, 50 - document);
            Check.due("the new one", x.wanted(document), document < 3 ? document : NONE);
        }
    }

    // ---- promises 1 and 2

    private static void runNewObject() {
        Place.in("Promise 1", "Creates an office with empty lists");
        BribedClerks x = new BribedClerks();
        for (int list = 0; list < 6; list++) {
            Check.each("list " + list, 0, x.list(list, 0), x.list(list, 3), x.list(list, 4));
            Check.each("entry of list " + list, NONE, x.entry(list, 0, 0), x.entry(list, 0, 1));
        }
        for (int document = 0; document < 60; document++) {
            Check.each("document " + document, 0, x.document(document, 0), x.document(document, 2));
        }
        Check.due("entries in all", x.count(0), 0);
    }

    private static void runAdd() {
        addOrAnotherScore();
        addScore();
        addPlace();
        addUnknown();
        addBadValue();
        addNotPossible();
        addFull();
        addNone();
    }

    private static void addOrAnotherScore() {
        Place.in("Promise 2", "Adds an entry to a list, or gives it another score");
        BribedClerks x = Check.office(new int[][] {{0, 1, 30}});
        Check.due("an entry more", x.add(0, 2, 20), 1);
        Check.due("entries", x.list(0, 0), 2);
        Check.due("another score", x.add(0, 2, 19), 1);
        Check.due("entries", x.list(0, 0), 2);
        Check.due("score", x.entry(0, 1, 1), 19);
    }

    private static void addScore() {
        Place.in("Promise 2", "`score`: 1 to 999");
        BribedClerks x = new BribedClerks();
        Check.each("the least and the greatest", 0, x.add(5, 0, 1), x.add(5, 59, 999));
        Check.each("one too small, one too great", BAD_VALUE, x.add(5, 1, 0), x.add(5, 1, 1000));
        Check.each("far off", BAD_VALUE, x.add(5, 1, -1), x.add(5, 1, LEAST), x.add(5, 1, MOST));
    }

    private static void addPlace() {
        Place.in("Promise 2", "Returns its place in the list then, from 0");
        BribedClerks x = fullList(4);
        Check.due("the last place of a full list", x.add(4, 0, 1), 39);
        Check.due("the first one", x.add(4, 0, 999), 0);
        Check.due("the same place", x.add(4, 0, 998), 0);
        Check.due("behind its old place, not counting itself", x.add(4, 0, 498), 1);
        Check.due("of the same score as the next one", x.add(4, 20, 479), 20);
        Check.due("of the same score as the one ahead", x.add(4, 20, 481), 20);
        Check.due("the lowest of the same score", x.add(4, 18, 481), 18);
        Check.due("the highest of the same score", x.add(4, 25, 481), 21);
        Check.due("the first in an empty list", x.add(5, 59, 1), 0);
    }

    private static void addUnknown() {
        Place.in("Promise 2", "UNKNOWN (list or document)");
        BribedClerks x = reading();
        Check.each("lists", UNKNOWN, x.add(-1, 1, 5), x.add(6, 1, 5), x.add(LEAST, 1, 5), x.add(MOST, 1, 5));
        Check.each("documents", UNKNOWN,
            x.add(0, -1, 5), x.add(0, 60, 5), x.add(0, LEAST, 5), x.add(0, MOST, 5));
        Check.each("ahead of a bad score", UNKNOWN, x.add(6, 1, 0), x.add(0, 60, 1000));
        x.end();
        Check.each("without a reading", UNKNOWN, x.add(-1, 1, 5), x.add(5, 60, 5), x.add(6, -1, 0));
        Check.due("in a full list", fullList(0).add(0, 60, 5), UNKNOWN);
    }

    private static void addBadValue() {
        Place.in("Promise 2", "BAD_VALUE");
        BribedClerks x = reading();
        Check.each("ahead of a reading", BAD_VALUE, x.add(0, 1, 0), x.add(0, 1, 1000), x.add(5, 59, -1));
        x.end();
        Check.each("without a reading", BAD_VALUE, x.add(0, 1, 0), x.add(0, 1, 1000));
        Check.due("ahead of a full list", fullList(0).add(0, 40, 1000), BAD_VALUE);
        Check.due("the entry stays", x.entry(0, 0, 1), 30);
    }

    private static void addNotPossible() {
        Place.in("Promise 2", "NOT_POSSIBLE if a reading is on");
        BribedClerks x = reading();
        Check.due("a new document", x.add(0, 2, 5), NOT_POSSIBLE);
        Check.due("a list that is not of the question", x.add(5, 2, 5), NOT_POSSIBLE);
        Check.due("another score", x.add(0, 1, 5), NOT_POSSIBLE);
        Check.due("ahead of the same score", x.add(0, 1, 30), NOT_POSSIBLE);
        x.end();
        Check.due("after the reading", x.add(0, 2, 5), 1);
        BribedClerks full = fullList(0);
        full.weight(0, 1);
        full.begin(0, false);
        Check.due("ahead of a full list", full.add(0, 40, 5), NOT_POSSIBLE);
    }

    private static void addFull() {
        Place.in("Promise 2", "FULL if the document is not in the list, and this has 40 entries");
        BribedClerks x = fullList(0);
        Check.each("a new document", FULL, x.add(0, 40, 5), x.add(0, 59, 999));
        Check.due("a document that is in the list", x.add(0, 39, 463), 38);
        Check.due("in another list", x.add(1, 40, 5), 0);
        Check.due("one entry less", x.drop(0, 0), 39);
        Check.due("39 entries are not too many", x.add(0, 40, 5), 39);
        Check.due("40 are", x.add(0, 0, 5), FULL);
        x.delete(40);
        Check.due("a deleted document keeps its room", x.add(0, 0, 5), FULL);
    }

    private static void addNone() {
        Place.in("Promise 2", "NONE if it has this score already");
        BribedClerks x = fullList(3);
        Check.due("also in a full list", x.add(3, 0, 500), NONE);
        Check.each("one less, one more, as it was", 0,
            x.add(3, 0, 499), x.add(3, 0, 501), x.add(3, 0, 500));
        Check.due("in another list", x.add(4, 0, 500), 0);
        Check.due("there too", x.add(4, 0, 500), NONE);
        x.drop(4, 0);
        Check.due("not if it was dropped", x.add(4, 0, 500), 0);
        x.delete(0);
        Check.due("also if it is deleted", x.add(4, 0, 500), NONE);
    }

    // ---- promises 3 to 5

    private static void runDrop() {
        dropNumber();
        dropUnknown();
        dropNotPossible();
    }

    private static void dropNumber() {
        Place.in("Promise 3", "Returns the number of entries then");
        BribedClerks x = fullList(5);
        Check.due("of a full list, the first one", x.drop(5, 0), 39);
        Check.due("the last one", x.drop(5, 39), 38);
        Check.due("one between", x.drop(5, 20), 37);
        Check.row("the places round it",
            new int[] {x.entry(5, 0, 0), x.entry(5, 18, 0), x.entry(5, 19, 0), x.entry(5, 36, 0)},
            1, 19, 21, 38);
        Check.due("behind the last one", x.entry(5, 37, 0), NONE);
        BribedClerks one = Check.office(new int[][] {{0, 59, 1}});
        Check.due("the only one", one.drop(0, 59), 0);
        Check.due("no score any more", one.list(0, 3), 0);
    }

    private static void dropUnknown() {
        Place.in("Promise 3", "UNKNOWN (list or document, or the document is not in it)");
        BribedClerks x = reading();
        Check.each("lists", UNKNOWN, x.drop(-1, 1), x.drop(6, 1), x.drop(LEAST, 1), x.drop(MOST, 1));
        Check.each("documents", UNKNOWN, x.drop(0, -1), x.drop(0, 60), x.drop(0, LEAST), x.drop(0, MOST));
        Check.each("not in it, ahead of a reading", UNKNOWN, x.drop(0, 2), x.drop(1, 1));
        x.end();
        Check.each("not in it", UNKNOWN, x.drop(0, 0), x.drop(0, 2), x.drop(1, 1), x.drop(5, 59));
        Check.due("in it", x.drop(0, 1), 0);
        Check.due("not in it any more", x.drop(0, 1), UNKNOWN);
    }

    private static void dropNotPossible() {
        Place.in("Promise 3", "NOT_POSSIBLE if a reading is on");
        BribedClerks x = Check.office(new int[][] {{0, 1, 30}, {5, 2, 20}});
        x.weight(0, 1);
        x.begin(0, false);
        Check.each("drop", NOT_POSSIBLE, x.drop(0, 1), x.drop(5, 2));
        Check.due("entries", x.count(0), 2);
        x.end();
        Check.each("after the reading", 0, x.drop(0, 1), x.drop(5, 2));
    }

    private static void runDelete() {
        deleteNumber();
        deleteUnknown();
        deleteNotPossible();
        deleteNone();
    }

    private static void deleteNumber() {
        Place.in("Promise 4", "Returns how many lists have it");
        BribedClerks x = new BribedClerks();
        for (int list = 0; list < 6; list++) {
            x.add(list, 59, 1);
        }
        x.add(5, 0, 1);
        Check.due("in all lists", x.delete(59), 6);
        Check.due("in the last one", x.delete(0), 1);
        Check.due("in none", x.delete(58), 0);
    }

    private static void deleteUnknown() {
        Place.in("Promise 4", "UNKNOWN");
        BribedClerks x = reading();
        Check.each("ahead of a reading", UNKNOWN,
            x.delete(-1), x.delete(60), x.delete(LEAST), x.delete(MOST));
        x.end();
        Check.each("without a reading", UNKNOWN, x.delete(-1), x.delete(60), x.delete(64), x.delete(-64));
        Check.due("none is deleted", x.count(3), 0);
        Check.each("the first and the last document", 0, x.delete(0), x.delete(59));
    }

    private static void deleteNotPossible() {
        Place.in("Promise 4", "NOT_POSSIBLE if a reading is on");
        BribedClerks x = Check.office(new int[][] {{0, 1, 30}});
        x.weight(0, 1);
        x.delete(2);
        x.begin(0, false);
        Check.each("delete", NOT_POSSIBLE, x.delete(1), x.delete(59));
        Check.due("ahead of a deleted one", x.delete(2), NOT_POSSIBLE);
        x.end();
        Check.due("after the reading", x.delete(1), 1);
    }

    private static void deleteNone() {
        Place.in("Promise 4", "NONE if it is deleted already");
        BribedClerks x = new BribedClerks();
        Check.each("first", 0, x.delete(0), x.delete(59), x.delete(31), x.delete(32));
        Check.each("again", NONE, x.delete(0), x.delete(59), x.delete(31), x.delete(32));
        Check.due("deleted", x.count(3), 4);
        Check.due("brought back", x.bring(59), 0);
        Check.due("can be deleted again", x.delete(59), 0);
    }

    private static void runBring() {
        bringBack();
        bringNumber();
        bringUnknown();
        bringNotPossible();
        bringNone();
    }

    private static void bringBack() {
        Place.in("Promise 5", "Brings a deleted document back");
        BribedClerks x = Check.office(new int[][] {{0, 59, 7}, {0, 0, 6}});
        x.weight(0, 1);
        x.delete(59);
        x.delete(0);
        Check.due("no answer", x.wanted(0), NONE);
        Check.due("bring", x.bring(59), 1);
        Check.due("not deleted any more", x.document(59, 0), 0);
        Check.due("the other one is", x.document(0, 0), 1);
        Check.due("an answer again", x.wanted(0), 59);
        Check.due("the other one is none", x.wanted(1), NONE);
    }

    private static void bringNumber() {
        Place.in("Promise 5", "Returns how many lists have it");
        BribedClerks x = Check.office(new int[][] {{5, 0, 7}});
        for (int list = 0; list < 6; list++) {
            x.add(list, 58, 1);
        }
        x.delete(58);
        x.delete(0);
        x.delete(1);
        Check.due("in all lists", x.bring(58), 6);
        Check.due("in the last one", x.bring(0), 1);
        Check.due("in none", x.bring(1), 0);
    }

    private static void bringUnknown() {
        Place.in("Promise 5", "UNKNOWN");
        BribedClerks x = reading();
        Check.each("ahead of a reading", UNKNOWN, x.bring(-1), x.bring(60), x.bring(LEAST), x.bring(MOST));
        x.end();
        Check.each("without a reading", UNKNOWN, x.bring(-1), x.bring(60), x.bring(64), x.bring(-64));
    }

    private static void bringNotPossible() {
        Place.in("Promise 5", "NOT_POSSIBLE if a reading is on");
        BribedClerks x = Check.office(new int[][] {{0, 1, 30}});
        x.weight(0, 1);
        x.delete(1);
        x.begin(0, false);
        Check.due("a deleted one", x.bring(1), NOT_POSSIBLE);
        Check.due("ahead of one that is not deleted", x.bring(2), NOT_POSSIBLE);
        x.end();
        Check.due("after the reading", x.bring(1), 1);
    }

    private static void bringNone() {
        Place.in("Promise 5", "NONE if it is not deleted");
        BribedClerks x = new BribedClerks();
        Check.each("of a new office", NONE, x.bring(0), x.bring(59));
        x.delete(59);
        Check.due("another one", x.bring(58), NONE);
        Check.due("the deleted one", x.bring(59), 0);
        Check.due("again", x.bring(59), NONE);
    }

    // ---- promises 6 to 8

    private static void runWeight() {
        weightRange();
        weightPrevious();
        weightUnknown();
        weightBadValue();
        weightNotPossible();
        weightNone();
    }

    private static void weightRange() {
        Place.in("Promise 6", "`weight`: 0 to 9");
        BribedClerks x = new BribedClerks();
        Check.due("9", x.weight(5, 9), 0);
        Check.each("one too small, one too great", BAD_VALUE, x.weight(5, -1), x.weight(5, 10));
        Check.each("far off", BAD_VALUE, x.weight(5, LEAST), x.weight(5, MOST));
        Check.due("0", x.weight(5, 0), 9);
    }

    private static void weightPrevious() {
        Place.in("Promise 6", "Returns the previous one");
        BribedClerks x = new BribedClerks();
        Check.row("9, 1, 8, 0", new int[] {
            x.weight(0, 9), x.weight(0, 1), x.weight(0, 8), x.weight(0, 0)}, 0, 9, 1, 8);
        Check.due("the weight of another list", x.weight(5, 4), 0);
    }

    private static void weightUnknown() {
        Place.in("Promise 6", "UNKNOWN");
        BribedClerks x = reading();
        int[] lists = {-1, 6, LEAST, MOST};
        for (int list : lists) {
            Check.due("list " + list + ", ahead of a reading", x.weight(list, 1), UNKNOWN);
            Check.due("list " + list + ", ahead of a bad weight", x.weight(list, 10), UNKNOWN);
        }
        x.end();
        Check.each("without a reading", UNKNOWN, x.weight(-1, 1), x.weight(6, 1));
    }

    private static void weightBadValue() {
        Place.in("Promise 6", "BAD_VALUE");
        BribedClerks x = reading();
        Check.each("ahead of a reading", BAD_VALUE, x.weight(0, -1), x.weight(0, 10), x.weight(5, LEAST));
        x.end();
        Check.each("without a reading", BAD_VALUE, x.weight(0, -1), x.weight(0, 10));
        Check.due("the weight stays", x.list(0, 1), 1);
    }

    private static void weightNotPossible() {
        Place.in("Promise 6", "NOT_POSSIBLE if a reading is on");
        BribedClerks x = reading();
        Check.each("weight", NOT_POSSIBLE, x.weight(0, 2), x.weight(0, 0), x.weight(5, 9));
        Check.each("ahead of the same weight", NOT_POSSIBLE, x.weight(0, 1), x.weight(5, 0));
        x.end();
        Check.due("after the reading", x.weight(0, 2), 1);
    }

    private static void weightNone() {
        Place.in("Promise 6", "NONE if it is so already");
        BribedClerks x = new BribedClerks();
        Check.each("of a new office", NONE, x.weight(0, 0), x.weight(5, 0));
        x.weight(1, 4);
        Check.due("so already", x.weight(1, 4), NONE);
        Check.row("one less, as it was", new int[] {x.weight(1, 3), x.weight(1, 4)}, 4, 3);
    }

    private static void runWant() {
        wantRange();
        wantPrevious();
        wantBadValue();
        wantNotPossible();
        wantNone();
    }

    private static void wantRange() {
        Place.in("Promise 7", "`k`: 1 to 10");
        BribedClerks x = new BribedClerks();
        Check.due("1", x.want(1), 3);
        Check.due("10", x.want(10), 1);
        Check.each("one too small, one too great", BAD_VALUE, x.want(0), x.want(11));
        Check.each("far off", BAD_VALUE, x.want(-1), x.want(LEAST), x.want(MOST));
    }

    private static void wantPrevious() {
        Place.in("Promise 7", "Returns the previous number");
        BribedClerks x = new BribedClerks();
        Check.row("1, 10, 2, 3", new int[] {x.want(1), x.want(10), x.want(2), x.want(3)}, 3, 1, 10, 2);
    }

    private static void wantBadValue() {
        Place.in("Promise 7", "BAD_VALUE");
        BribedClerks x = reading();
        Check.each("ahead of a reading", BAD_VALUE, x.want(0), x.want(11), x.want(LEAST), x.want(MOST));
        x.end();
        Check.each("without a reading", BAD_VALUE, x.want(0), x.want(11));
        Check.due("the number stays", x.count(2), 3);
    }

    private static void wantNotPossible() {
        Place.in("Promise 7", "NOT_POSSIBLE if a reading is on");
        BribedClerks x = reading();
        Check.each("want", NOT_POSSIBLE, x.want(1), x.want(10));
        Check.due("ahead of the same number", x.want(3), NOT_POSSIBLE);
        x.end();
        Check.due("after the reading", x.want(1), 3);
    }

    private static void wantNone() {
        Place.in("Promise 7", "NONE if it is so already");
        BribedClerks x = new BribedClerks();
        Check.due("of a new office", x.want(3), NONE);
        Check.row("one less, as it was", new int[] {x.want(2), x.want(3)}, 3, 2);
        x.want(10);
        Check.due("so already", x.want(10), NONE);
    }

    private static void runBribe() {
        bribeRange();
        bribePrevious();
        bribeUnknown();
        bribeBadValue();
        bribeNotPossible();
        bribeNone();
    }

    private static void bribeRange() {
        Place.in("Promise 8", "`bribe`: 0 to 500");
        BribedClerks x = new BribedClerks();
        Check.due("500", x.bribe(5, 500), 0);
        Check.each("one too small, one too great", BAD_VALUE, x.bribe(5, -1), x.bribe(5, 501));
        Check.each("far off", BAD_VALUE, x.bribe(5, LEAST), x.bribe(5, MOST));
        Check.due("0", x.bribe(5, 0), 500);
    }

    private static void bribePrevious() {
        Place.in("Promise 8", "Returns the previous one");
        BribedClerks x = new BribedClerks();
        Check.row("500, 1, 499, 0", new int[] {
            x.bribe(0, 500), x.bribe(0, 1), x.bribe(0, 499), x.bribe(0, 0)}, 0, 500, 1, 499);
        Check.due("the bribe of another list", x.bribe(5, 40), 0);
    }

    private static void bribeUnknown() {
        Place.in("Promise 8", "UNKNOWN");
        BribedClerks x = reading();
        int[] lists = {-1, 6, LEAST, MOST};
        for (int list : lists) {
            Check.due("list " + list + ", ahead of a reading", x.bribe(list, 1), UNKNOWN);
            Check.due("list " + list + ", ahead of a bad bribe", x.bribe(list, 501), UNKNOWN);
        }
        x.end();
        Check.each("without a reading", UNKNOWN, x.bribe(-1, 1), x.bribe(6, 1));
    }

    private static void bribeBadValue() {
        Place.in("Promise 8", "BAD_VALUE");
        BribedClerks x = reading();
        Check.each("ahead of a reading", BAD_VALUE, x.bribe(0, -1), x.bribe(0, 501), x.bribe(5, LEAST));
        x.end();
        Check.each("without a reading", BAD_VALUE, x.bribe(0, -1), x.bribe(0, 501));
        Check.due("the bribe stays", x.list(0, 2), 0);
    }

    private static void bribeNotPossible() {
        Place.in("Promise 8", "NOT_POSSIBLE if a reading is on");
        BribedClerks x = reading();
        Check.each("bribe", NOT_POSSIBLE, x.bribe(0, 1), x.bribe(5, 500));
        Check.each("ahead of the same bribe", NOT_POSSIBLE, x.bribe(0, 0), x.bribe(5, 0));
        x.end();
        Check.due("after the reading", x.bribe(0, 1), 0);
    }

    private static void bribeNone() {
        Place.in("Promise 8", "NONE if it is so already");
        BribedClerks x = new BribedClerks();
        Check.each("of a new office", NONE, x.bribe(0, 0), x.bribe(5, 0));
        x.bribe(1, 40);
        Check.due("so already", x.bribe(1, 40), NONE);
        Check.row("one less, as it was", new int[] {x.bribe(1, 39), x.bribe(1, 40)}, 40, 39);
    }
}
