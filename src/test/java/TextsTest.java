/** Promises 12 to 14: texts. */
final class TextsTest {
    private static final int UNKNOWN = BribedClerks.UNKNOWN;
    private static final int BAD_VALUE = BribedClerks.BAD_VALUE;
    private static final int FULL = BribedClerks.FULL;
    private static final int NOT_POSSIBLE = BribedClerks.NOT_POSSIBLE;
    private static final int NONE = BribedClerks.NONE;

    private TextsTest() {
    }

    static void run() {
        type();
        clearText();
        performAll();
        performErrors();
        performRecordsOnce();
        faultsOfWords();
        faultsOfNumbers();
    }

    private static void type() {
        Check.promise("12 type");
        BribedClerks x = new BribedClerks();
        char[] signs = {'a', (char) 0, (char) 255, (char) 65535, '\n'};
        for (int i = 0; i < 40; i++) {
            Check.due("type", x.type(signs[i % signs.length]), i + 1);
        }
        Check.due("full", x.type('a'), FULL);
        Check.due("full again", x.type((char) 0), FULL);
        Check.due("length", x.count(9), 40);
        Check.due("history", x.count(8), 0);
        Check.due("no command", x.perform(), -101 + 1);
        Check.due("clear", x.clearText(), 40);
        Check.due("room", x.type('a'), 1);
    }

    private static void clearText() {
        Check.promise("13 clearText");
        BribedClerks x = new BribedClerks();
        Check.due("empty", x.clearText(), 0);
        x.type('w');
        x.type('a');
        Check.due("two", x.clearText(), 2);
        Check.due("length", x.count(9), 0);
        Check.due("empty again", x.clearText(), 0);
        Check.duePerform(x, "want 7", 3);
        Check.typeText(x, "want");
        Check.due("nothing of the old text is left", x.perform(), -104);
        Check.due("not an act", x.count(8), 1);
    }

    private static void performAll() {
        Check.promise("14 perform");
        BribedClerks x = new BribedClerks();
        Check.duePerform(x, "add 5 59 999", 0);
        Check.due("document", x.entry(5, 0, 0), 59);
        Check.due("score", x.entry(5, 0, 1), 999);
        Check.due("the text stays", x.count(9), 12);
        Check.due("again", x.perform(), NONE);
        Check.duePerform(x, "add 5 0 10", 1);
        Check.duePerform(x, "weight 5 9", 0);
        Check.due("weight", x.list(5, 1), 9);
        Check.duePerform(x, "bribe 5 500", 0);
        Check.due("bribe", x.list(5, 2), 500);
        Check.duePerform(x, "delete 59", 1);
        Check.due("deleted", x.document(59, 0), 1);
        Check.duePerform(x, "bring 59", 1);
        Check.due("brought", x.document(59, 0), 0);
        Check.duePerform(x, "want 10", 3);
        Check.due("want", x.count(2), 10);
        Check.duePerform(x, "drop 5 59", 1);
        Check.due("dropped", x.list(5, 0), 1);
    }

    private static void performErrors() {
        Check.promise("14 perform, errors of the acts");
        BribedClerks x = new BribedClerks();
        Check.duePerform(x, "add 6 0 1", UNKNOWN);
        Check.duePerform(x, "add 0 60 1", UNKNOWN);
        Check.duePerform(x, "add 999 999 999", UNKNOWN);
        Check.duePerform(x, "add 0 0 0", BAD_VALUE);
        Check.duePerform(x, "drop 0 0", UNKNOWN);
        Check.duePerform(x, "weight 0 10", BAD_VALUE);
        Check.duePerform(x, "weight 0 0", NONE);
        Check.duePerform(x, "bribe 0 501", BAD_VALUE);
        Check.duePerform(x, "bribe 6 0", UNKNOWN);
        Check.duePerform(x, "delete 60", UNKNOWN);
        Check.duePerform(x, "bring 0", NONE);
        Check.duePerform(x, "want 0", BAD_VALUE);
        Check.duePerform(x, "want 3", NONE);
        Check.due("nothing is recorded", x.count(8), 0);
        x.weight(0, 1);
        x.begin(0, false);
        Check.duePerform(x, "want 4", NOT_POSSIBLE);
        Check.duePerform(x, "wand 4", -100);
    }

    private static void performRecordsOnce() {
        Check.promise("14 perform is an act");
        BribedClerks x = new BribedClerks();
        Check.duePerform(x, "want 4", 3);
        Check.due("one state", x.count(8), 1);
        Check.due("undo", x.undo(), 0);
        Check.due("undone", x.count(2), 3);
        Check.due("the text is no part of the state", x.count(9), 6);
        Check.due("perform", x.perform(), 3);
    }

    private static void faultsOfWords() {
        Check.promise("14 faults of words");
        BribedClerks x = new BribedClerks();
        String[] noWords = {"", "a", "ad", "addd", "Add 0 1 2", " add 0 1 2", "undo", "wants 3",
            "wan", "0", "keep", "begin 0", "weigh 0 1", "add\u00e9 0", "delet 1", "bringt 1", "wantz 1",
            "xdd 0 1 2", "waxt 3", "wanx 3"};
        for (String text : noWords) {
            Check.duePerform(x, text, text.equals("add\u00e9 0") ? -103 : -100);
        }
        Check.duePerform(x, "add", -103);
        Check.duePerform(x, "drop", -104);
        Check.duePerform(x, "weight", -106);
        Check.duePerform(x, "bribe", -105);
        Check.duePerform(x, "delete", -106);
        Check.duePerform(x, "bring", -105);
        Check.duePerform(x, "want", -104);
        Check.duePerform(x, "want3", -104);
        Check.duePerform(x, "wantX", -104);
        Check.duePerform(x, "want\t3", -104);
        Check.duePerform(x, "want`", -104);
        Check.duePerform(x, "want{", -104);
        Check.duePerform(x, "want" + (char) 0, -104);
    }

    private static void faultsOfNumbers() {
        Check.promise("14 faults of numbers");
        BribedClerks x = new BribedClerks();
        Check.duePerform(x, "want ", -105);
        Check.duePerform(x, "want  3", -105);
        Check.duePerform(x, "want a", -105);
        Check.duePerform(x, "want -3", -105);
        Check.duePerform(x, "want /", -105);
        Check.duePerform(x, "want :", -105);
        Check.duePerform(x, "want 04", -106);
        Check.duePerform(x, "want 00", -106);
        Check.duePerform(x, "want 4 ", -106);
        Check.duePerform(x, "want 4 5", -106);
        Check.duePerform(x, "want 4" + (char) 0, -106);
        Check.duePerform(x, "want 4x", -106);
        Check.duePerform(x, "want 1000", -108);
        Check.duePerform(x, "want 999", BAD_VALUE);
        Check.duePerform(x, "add 0", -105);
        Check.duePerform(x, "add 0 ", -106);
        Check.duePerform(x, "add 0 1", -107);
        Check.duePerform(x, "add 0 1 ", -108);
        Check.duePerform(x, "add 0 01 5", -107);
        Check.duePerform(x, "add 0 1  5", -108);
        Check.duePerform(x, "add 0,1,5", -105);
        Check.duePerform(x, "add 0 1 5 6", -109);
        Check.duePerform(x, "add 0 1 05", -109);
        Check.duePerform(x, "add 100 100 1000", -115);
        Check.duePerform(x, "drop 0 1 5", -108);
        Check.duePerform(x, "weight 0", -108);
        Check.duePerform(x, "bribe 0 50x", -110);
        Check.duePerform(x, "delete 1 2", -108);
        Check.duePerform(x, "bring 1 2", -107);
        Check.duePerform(x, "add 0 1 5" + " ".repeat(31), -109);
        Check.due("nothing was done", x.count(0) + x.count(8), 0);
        Check.duePerform(x, "add 0 0 5", 0);
        Check.duePerform(x, "add 0 10 50", 0);
    }
}
