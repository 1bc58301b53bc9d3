/** Promises 1 to 8: a new object, the lists and the question. */
final class ListsTest {
    private static final int UNKNOWN = BribedClerks.UNKNOWN;
    private static final int BAD_VALUE = BribedClerks.BAD_VALUE;
    private static final int FULL = BribedClerks.FULL;
    private static final int NOT_POSSIBLE = BribedClerks.NOT_POSSIBLE;
    private static final int NONE = BribedClerks.NONE;

    private ListsTest() {
    }

    static void run() {
        constants();
        newObject();
        objectsShareNothing();
        addOrders();
        addMoves();
        addWrong();
        addFull();
        drop();
        deleteAndBring();
        deletedStayInLists();
        weight();
        want();
        bribe();
        lockedWhileReading();
    }

    private static void constants() {
        Check.promise("constants");
        Check.due("UNKNOWN", BribedClerks.UNKNOWN, -1);
        Check.due("BAD_VALUE", BribedClerks.BAD_VALUE, -2);
        Check.due("FULL", BribedClerks.FULL, -3);
        Check.due("NOT_POSSIBLE", BribedClerks.NOT_POSSIBLE, -4);
        Check.due("NONE", BribedClerks.NONE, -5);
    }

    private static void newObject() {
        Check.promise("1 new");
        BribedClerks x = new BribedClerks();
        int[] counts = {0, 0, 3, 0, 0, 0, 0, 0, 0, 0};
        for (int what = 0; what < counts.length; what++) {
            Check.due("count(" + what + ")", x.count(what), counts[what]);
        }
        for (int list = 0; list < 6; list++) {
            for (int what = 0; what < 5; what++) {
                Check.due("list(" + list + ", " + what + ")", x.list(list, what), 0);
            }
            Check.due("entry", x.entry(list, 0, 0), NONE);
        }
        for (int document = 0; document < 60; document++) {
            Check.due("document 0", x.document(document, 0), 0);
            Check.due("document 1", x.document(document, 1), 0);
            Check.due("document 2", x.document(document, 2), 0);
            Check.due("document 3", x.document(document, 3), NONE);
        }
        Check.due("wanted(0)", x.wanted(0), NONE);
        Check.due("undo()", x.undo(), NONE);
        Check.due("restore()", x.restore(), NONE);
        Check.due("clearText()", x.clearText(), 0);
        Check.due("perform()", x.perform(), -100);
        Check.due("end()", x.end(), NOT_POSSIBLE);
        Check.due("begin", x.begin(0, false), NOT_POSSIBLE);
    }

    private static void objectsShareNothing() {
        Check.promise("1 two objects");
        BribedClerks x = new BribedClerks();
        BribedClerks y = new BribedClerks();
        x.add(0, 1, 5);
        x.weight(0, 2);
        x.type('a');
        x.keep();
        Check.due("entries", y.count(0), 0);
        Check.due("weights", y.count(1), 0);
        Check.due("history", y.count(8), 0);
        Check.due("text", y.count(9), 0);
        Check.due("restore()", y.restore(), NONE);
    }

    private static void addOrders() {
        Check.promise("2 add");
        BribedClerks x = new BribedClerks();
        Check.due("first", x.add(5, 59, 1), 0);
        Check.due("greater goes first", x.add(5, 30, 999), 0);
        Check.due("between", x.add(5, 31, 500), 1);
        Check.due("same score, lower document first", x.add(5, 29, 500), 1);
        Check.due("same score, higher document behind", x.add(5, 32, 500), 3);
        Check.due("same score as the last, document 0", x.add(5, 0, 1), 4);
        int[] documents = {30, 29, 31, 32, 0, 59};
        int[] scores = {999, 500, 500, 500, 1, 1};
        for (int place = 0; place < documents.length; place++) {
            Check.due("document at " + place, x.entry(5, place, 0), documents[place]);
            Check.due("score at " + place, x.entry(5, place, 1), scores[place]);
        }
        Check.due("behind the last", x.entry(5, 6, 0), NONE);
        Check.due("other list", x.list(4, 0), 0);
        Check.due("same document in another list", x.add(4, 30, 7), 0);
    }

    private static void addMoves() {
        Check.promise("2 add again");
        BribedClerks x = Check.office(new int[][] {{0, 1, 90}, {0, 2, 80}, {0, 3, 70}, {0, 4, 60}});
        Check.due("same score", x.add(0, 2, 80), NONE);
        Check.due("NONE is not recorded", x.count(8), 4);
        Check.due("down", x.add(0, 2, 65), 2);
        Check.due("up", x.add(0, 4, 100), 0);
        Check.due("stays", x.add(0, 4, 101), 0);
        Check.due("to the end", x.add(0, 4, 1), 3);
        Check.due("entries", x.list(0, 0), 4);
        int[] documents = {1, 3, 2, 4};
        for (int place = 0; place < 4; place++) {
            Check.due("document at " + place, x.entry(0, place, 0), documents[place]);
        }
        Check.due("greatest", x.list(0, 3), 90);
    }

    private static void addWrong() {
        Check.promise("2 add, wrong");
        BribedClerks x = Check.office(new int[][] {{0, 1, 90}});
        int[] lists = {-1, 6, Integer.MIN_VALUE, Integer.MAX_VALUE};
        for (int list : lists) {
            Check.due("list " + list, x.add(list, 1, 0), UNKNOWN);
        }
        int[] documents = {-1, 60, Integer.MIN_VALUE, Integer.MAX_VALUE};
        for (int document : documents) {
            Check.due("document " + document, x.add(0, document, 0), UNKNOWN);
        }
        int[] scores = {0, 1000, -1, Integer.MIN_VALUE, Integer.MAX_VALUE};
        for (int score : scores) {
            Check.due("score " + score, x.add(0, 1, score), BAD_VALUE);
        }
        Check.due("entries", x.count(0), 1);
        Check.due("history", x.count(8), 1);
    }

    private static void addFull() {
        Check.promise("2 add, full");
        BribedClerks x = new BribedClerks();
        for (int document = 0; document < 40; document++) {
            Check.due("add", x.add(2, document, 100 + document), 0);
        }
        Check.due("entries", x.list(2, 0), 40);
        Check.due("a new document", x.add(2, 40, 5), FULL);
        Check.due("a bad score first", x.add(2, 40, 0), BAD_VALUE);
        Check.due("an old document, same score", x.add(2, 39, 139), NONE);
        Check.due("an old document", x.add(2, 39, 1), 39);
        Check.due("list behind", x.list(3, 0), 0);
        Check.due("the list behind has room", x.add(3, 40, 5), 0);
        Check.due("its entry", x.entry(3, 0, 0), 40);
        Check.due("last entry", x.entry(2, 39, 0), 39);
        Check.due("drop", x.drop(2, 0), 39);
        Check.due("room again", x.add(2, 40, 999), 0);
        Check.due("full again", x.add(2, 41, 999), FULL);
        x.weight(2, 1);
        x.begin(0, false);
        Check.due("reading before full", x.add(2, 41, 999), NOT_POSSIBLE);
    }

    private static void drop() {
        Check.promise("3 drop");
        BribedClerks x = Check.office(new int[][] {{1, 7, 30}, {1, 8, 20}, {1, 9, 10}, {2, 8, 5}});
        Check.due("list -1", x.drop(-1, 7), UNKNOWN);
        Check.due("list 6", x.drop(6, 7), UNKNOWN);
        Check.due("document -1", x.drop(1, -1), UNKNOWN);
        Check.due("document 60", x.drop(1, 60), UNKNOWN);
        Check.due("not in the list", x.drop(2, 7), UNKNOWN);
        Check.due("middle", x.drop(1, 8), 2);
        Check.due("again", x.drop(1, 8), UNKNOWN);
        Check.due("place 0", x.entry(1, 0, 0), 7);
        Check.due("place 1", x.entry(1, 1, 0), 9);
        Check.due("place 2", x.entry(1, 2, 0), NONE);
        Check.due("the other list keeps it", x.entry(2, 0, 0), 8);
        Check.due("first", x.drop(1, 7), 1);
        Check.due("last", x.drop(1, 9), 0);
        Check.due("recorded", x.undo(), 3);
        Check.due("undone", x.list(1, 0), 1);
        x.weight(1, 1);
        x.begin(0, false);
        Check.due("not in the list comes first", x.drop(1, 7), UNKNOWN);
        Check.due("reading", x.drop(1, 9), NOT_POSSIBLE);
    }

    private static void deleteAndBring() {
        Check.promise("4 delete, 5 bring");
        BribedClerks x = Check.office(new int[][] {{0, 3, 10}, {2, 3, 10}, {5, 3, 10}, {5, 4, 20}});
        int[] unknown = {-1, 60, Integer.MIN_VALUE, Integer.MAX_VALUE, 63, 64};
        for (int document : unknown) {
            Check.due("delete " + document, x.delete(document), UNKNOWN);
            Check.due("bring " + document, x.bring(document), UNKNOWN);
        }
        Check.due("bring, not deleted", x.bring(3), NONE);
        Check.due("delete", x.delete(3), 3);
        Check.due("delete again", x.delete(3), NONE);
        Check.due("delete in no list", x.delete(59), 0);
        Check.due("delete in one list", x.delete(4), 1);
        Check.due("deleted", x.count(3), 3);
        Check.due("is deleted", x.document(3, 0), 1);
        Check.due("another is not", x.document(35, 0), 0);
        Check.due("bring", x.bring(3), 3);
        Check.due("bring again", x.bring(3), NONE);
        Check.due("bring from no list", x.bring(59), 0);
        Check.due("deleted", x.count(3), 1);
        Check.due("undo a bring", x.undo(), 3);
        Check.due("deleted", x.document(59, 0), 1);
        Check.due("undo a bring", x.undo(), 2);
        Check.due("undo a delete", x.undo(), 1);
        Check.due("not deleted", x.document(4, 0), 0);
        x.weight(0, 1);
        x.begin(0, false);
        Check.due("delete while reading", x.delete(3), NOT_POSSIBLE);
        Check.due("bring while reading", x.bring(3), NOT_POSSIBLE);
        Check.due("unknown while reading", x.bring(60), UNKNOWN);
    }

    private static void deletedStayInLists() {
        Check.promise("4 entries stay");
        BribedClerks x = Check.office(new int[][] {{0, 3, 10}, {0, 4, 9}});
        x.weight(0, 2);
        x.delete(3);
        Check.due("entries", x.list(0, 0), 2);
        Check.due("entry", x.entry(0, 0, 0), 3);
        Check.due("greatest", x.list(0, 3), 10);
        Check.due("deleted in it", x.list(0, 4), 1);
        Check.due("value", x.document(3, 1), 20);
        Check.due("bits", x.document(3, 2), 1);
        Check.due("no answer", x.document(3, 3), NONE);
        Check.due("the other", x.document(4, 3), 0);
        Check.due("a deleted one can be added", x.add(1, 3, 8), 0);
        Check.due("and dropped", x.drop(0, 3), 1);
        Check.due("deleted in it", x.list(0, 4), 0);
        Check.due("bring", x.bring(3), 1);
    }

    private static void weight() {
        Check.promise("6 weight");
        BribedClerks x = Check.office(new int[][] {{0, 3, 10}});
        Check.due("list -1", x.weight(-1, 10), UNKNOWN);
        Check.due("list 6", x.weight(6, 1), UNKNOWN);
        Check.due("-1", x.weight(0, -1), BAD_VALUE);
        Check.due("10", x.weight(0, 10), BAD_VALUE);
        Check.due("so already", x.weight(0, 0), NONE);
        Check.due("9", x.weight(0, 9), 0);
        Check.due("value", x.document(3, 1), 90);
        Check.due("1", x.weight(0, 1), 9);
        Check.due("so already", x.weight(0, 1), NONE);
        Check.due("told", x.list(0, 1), 1);
        Check.due("others", x.list(1, 1), 0);
        Check.due("lists of the question", x.count(1), 1);
        Check.due("history", x.count(8), 3);
        Check.due("0", x.weight(0, 0), 1);
        Check.due("lists of the question", x.count(1), 0);
        Check.due("undo", x.undo(), 3);
        Check.due("undone", x.list(0, 1), 1);
    }

    private static void want() {
        Check.promise("7 want");
        BribedClerks x = new BribedClerks();
        int[] bad = {0, 11, -1, Integer.MIN_VALUE, Integer.MAX_VALUE};
        for (int k : bad) {
            Check.due("want " + k, x.want(k), BAD_VALUE);
        }
        Check.due("so already", x.want(3), NONE);
        Check.due("10", x.want(10), 3);
        Check.due("1", x.want(1), 10);
        Check.due("told", x.count(2), 1);
        Check.due("history", x.count(8), 2);
        Check.due("undo", x.undo(), 1);
        Check.due("undone", x.count(2), 10);
    }

    private static void bribe() {
        Check.promise("8 bribe");
        BribedClerks x = Check.office(new int[][] {{0, 3, 10}});
        Check.due("list -1", x.bribe(-1, 501), UNKNOWN);
        Check.due("list 6", x.bribe(6, 1), UNKNOWN);
        Check.due("-1", x.bribe(0, -1), BAD_VALUE);
        Check.due("501", x.bribe(0, 501), BAD_VALUE);
        Check.due("so already", x.bribe(0, 0), NONE);
        Check.due("500", x.bribe(0, 500), 0);
        Check.due("1", x.bribe(0, 1), 500);
        Check.due("so already", x.bribe(0, 1), NONE);
        Check.due("told", x.list(0, 2), 1);
        Check.due("others", x.list(1, 2), 0);
        Check.due("history", x.count(8), 3);
        Check.due("undo", x.undo(), 2);
        Check.due("undone", x.list(0, 2), 500);
        Check.due("not of the question too", x.bribe(5, 7), 0);
    }

    private static void lockedWhileReading() {
        Check.promise("2 to 8 while a reading is on");
        BribedClerks x = Check.office(new int[][] {{0, 3, 10}});
        x.weight(0, 1);
        x.begin(0, false);
        for (int round = 0; round < 2; round++) {
            Check.due("add", x.add(1, 1, 1), NOT_POSSIBLE);
            Check.due("add, so already", x.add(0, 3, 10), NOT_POSSIBLE);
            Check.due("add, bad", x.add(0, 3, 0), BAD_VALUE);
            Check.due("drop", x.drop(0, 3), NOT_POSSIBLE);
            Check.due("delete", x.delete(3), NOT_POSSIBLE);
            Check.due("bring, not deleted", x.bring(3), NOT_POSSIBLE);
            Check.due("weight", x.weight(0, 2), NOT_POSSIBLE);
            Check.due("weight, so already", x.weight(0, 1), NOT_POSSIBLE);
            Check.due("weight, bad", x.weight(0, 10), BAD_VALUE);
            Check.due("want", x.want(2), NOT_POSSIBLE);
            Check.due("want, so already", x.want(3), NOT_POSSIBLE);
            Check.due("want, bad", x.want(0), BAD_VALUE);
            Check.due("bribe", x.bribe(0, 2), NOT_POSSIBLE);
            Check.due("bribe, so already", x.bribe(0, 0), NOT_POSSIBLE);
            Check.due("bribe, bad", x.bribe(0, 501), BAD_VALUE);
            Check.due("nothing recorded", x.count(8), 3 + round);
            x.step(240);
        }
        x.end();
        Check.due("free again", x.want(2), 3);
    }
}
