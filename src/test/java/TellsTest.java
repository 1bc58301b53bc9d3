/** Promises 18 to 21 and 28: what is told of the lists and of all. */
final class TellsTest {
    private static final int UNKNOWN = BribedClerks.UNKNOWN;
    private static final int BAD_VALUE = BribedClerks.BAD_VALUE;
    private static final int NONE = BribedClerks.NONE;

    private TellsTest() {
    }

    static void run() {
        list();
        entry();
        document();
        wanted();
        wantedOfSmallValues();
        wantedOfTies();
        count();
    }

    private static void list() {
        Check.promise("18 list");
        BribedClerks x = Check.office(new int[][] {{3, 1, 30}, {3, 2, 40}, {3, 3, 20}, {4, 1, 1}});
        x.weight(3, 8);
        x.bribe(3, 77);
        x.delete(1);
        x.delete(3);
        int[] due = {3, 8, 77, 40, 2};
        for (int what = 0; what < due.length; what++) {
            Check.due("list(3, " + what + ")", x.list(3, what), due[what]);
        }
        Check.due("deleted in 4", x.list(4, 4), 1);
        Check.due("deleted in 5", x.list(5, 4), 0);
        Check.due("greatest of 5", x.list(5, 3), 0);
        Check.due("list -1", x.list(-1, 9), UNKNOWN);
        Check.due("list 6", x.list(6, 0), UNKNOWN);
        Check.due("what -1", x.list(0, -1), BAD_VALUE);
        Check.due("what 5", x.list(0, 5), BAD_VALUE);
    }

    private static void entry() {
        Check.promise("19 entry");
        BribedClerks x = Check.office(new int[][] {{3, 1, 30}, {3, 2, 40}, {4, 5, 6}});
        Check.due("document", x.entry(3, 0, 0), 2);
        Check.due("score", x.entry(3, 0, 1), 40);
        Check.due("document", x.entry(3, 1, 0), 1);
        Check.due("score", x.entry(3, 1, 1), 30);
        Check.due("behind the last", x.entry(3, 2, 0), NONE);
        Check.due("where the next list begins", x.entry(3, 40, 0), NONE);
        Check.due("far", x.entry(3, Integer.MAX_VALUE, 1), NONE);
        Check.due("list -1", x.entry(-1, -1, 0), UNKNOWN);
        Check.due("list 6", x.entry(6, 0, 0), UNKNOWN);
        Check.due("place -1", x.entry(3, -1, 0), BAD_VALUE);
        Check.due("least place", x.entry(3, Integer.MIN_VALUE, 0), BAD_VALUE);
        Check.due("what -1", x.entry(3, 0, -1), BAD_VALUE);
        Check.due("what 2", x.entry(3, 0, 2), BAD_VALUE);
        Check.due("what 2 behind the last", x.entry(3, 9, 2), BAD_VALUE);
    }

    private static void document() {
        Check.promise("20 document");
        BribedClerks x = Check.office(new int[][] {
            {0, 1, 10}, {2, 1, 20}, {5, 1, 999}, {0, 2, 100}, {2, 3, 21}, {5, 59, 4}});
        x.weight(0, 2);
        x.weight(2, 3);
        Check.due("value", x.document(1, 1), 80);
        Check.due("value", x.document(2, 1), 200);
        Check.due("value", x.document(3, 1), 63);
        Check.due("value, not in the question", x.document(59, 1), 0);
        Check.due("bits", x.document(1, 2), 1 + 4 + 32);
        Check.due("bits", x.document(59, 2), 32);
        Check.due("bits", x.document(4, 2), 0);
        Check.due("place", x.document(2, 3), 0);
        Check.due("place", x.document(1, 3), 1);
        Check.due("place", x.document(3, 3), 2);
        Check.due("place without a value", x.document(59, 3), NONE);
        x.want(2);
        Check.due("place behind the wanted", x.document(3, 3), NONE);
        x.delete(2);
        Check.due("deleted", x.document(2, 0), 1);
        Check.due("value of a deleted one", x.document(2, 1), 200);
        Check.due("place of a deleted one", x.document(2, 3), NONE);
        Check.due("place", x.document(1, 3), 0);
        Check.due("place", x.document(3, 3), 1);
        x.weight(5, 9);
        Check.due("greatest value", x.document(1, 1), 80 + 9 * 999);
        Check.due("document -1", x.document(-1, 9), UNKNOWN);
        Check.due("document 60", x.document(60, 0), UNKNOWN);
        Check.due("what -1", x.document(0, -1), BAD_VALUE);
        Check.due("what 4", x.document(0, 4), BAD_VALUE);
    }

    private static void wanted() {
        Check.promise("21 wanted");
        BribedClerks x = Check.office(new int[][] {
            {0, 10, 10}, {0, 11, 11}, {0, 12, 12}, {0, 13, 13}, {1, 14, 14}});
        x.weight(0, 1);
        int[] due = {13, 12, 11, NONE, NONE};
        for (int place = 0; place < due.length; place++) {
            Check.due("wanted " + place, x.wanted(place), due[place]);
        }
        Check.due("-1", x.wanted(-1), BAD_VALUE);
        Check.due("NONE's number", x.wanted(-5), BAD_VALUE);
        Check.due("least", x.wanted(Integer.MIN_VALUE), BAD_VALUE);
        Check.due("far", x.wanted(Integer.MAX_VALUE), NONE);
        x.want(10);
        Check.due("the fourth", x.wanted(3), 10);
        Check.due("not in the question", x.wanted(4), NONE);
        Check.due("wanted in all", x.count(4), 4);
        x.delete(12);
        Check.due("deleted", x.wanted(1), 11);
        Check.due("wanted in all", x.count(4), 3);
    }

    private static void wantedOfSmallValues() {
        Check.promise("21 wanted, values of 1 and 0");
        BribedClerks x = Check.office(new int[][] {{5, 0, 1}, {5, 58, 1}, {5, 59, 1}, {4, 1, 5}});
        x.weight(5, 1);
        Check.due("bits", x.document(0, 2), 32);
        Check.due("wanted", x.wanted(0), 0);
        Check.due("wanted in all", x.count(4), 3);
        x.delete(0);
        Check.due("wanted", x.wanted(0), 58);
        Check.due("place", x.document(59, 3), 1);
        Check.due("wanted in all", x.count(4), 2);
        x.weight(5, 0);
        Check.due("no question", x.wanted(0), NONE);
        Check.due("wanted in all", x.count(4), 0);
    }

    private static void wantedOfTies() {
        Check.promise("21 wanted, same values");
        BribedClerks x = Check.office(new int[][] {
            {0, 20, 5}, {1, 7, 10}, {0, 6, 2}, {1, 6, 6}, {1, 59, 10}, {0, 0, 5}});
        x.weight(0, 2);
        x.weight(1, 1);
        x.want(4);
        int[] due = {0, 6, 7, 20, NONE};
        for (int place = 0; place < due.length; place++) {
            Check.due("wanted " + place, x.wanted(place), due[place]);
        }
        Check.due("wanted in all", x.count(4), 4);
        x.want(5);
        Check.due("the last", x.wanted(4), 59);
    }

    private static void count() {
        Check.promise("28 count");
        BribedClerks x = Check.office(new int[][] {
            {0, 1, 30}, {0, 2, 20}, {4, 1, 10}, {5, 2, 5}, {5, 3, 4}});
        x.weight(0, 1);
        x.weight(5, 1);
        x.bribe(0, 1);
        x.bribe(5, 1);
        x.want(9);
        x.delete(3);
        x.delete(40);
        Check.typeText(x, "abcde");
        int[] due = {5, 2, 9, 2, 2, 0, 0, 0, 4, 5};
        for (int what = 0; what < due.length; what++) {
            Check.due("count " + what, x.count(what), due[what]);
        }
        x.begin(0, false);
        x.step(240);
        Check.due("on", x.count(5), 1);
        Check.due("begun", x.count(6), 1);
        Check.due("caught", x.count(7), 2);
        Check.due("wanted", x.count(4), 2);
        x.end();
        x.begin(1, false);
        x.step(1);
        Check.due("begun", x.count(6), 2);
        Check.due("caught", x.count(7), 3);
        Check.due("-1", x.count(-1), BAD_VALUE);
        Check.due("10", x.count(10), BAD_VALUE);
        Check.due("least", x.count(Integer.MIN_VALUE), BAD_VALUE);
    }
}
