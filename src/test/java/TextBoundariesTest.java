/** Each boundary that TEXTS and the promises 12 to 14 name, a test each. */
final class TextBoundariesTest {
    private static final int UNKNOWN = BribedClerks.UNKNOWN;
    private static final int BAD_VALUE = BribedClerks.BAD_VALUE;
    private static final int FULL = BribedClerks.FULL;
    private static final int NOT_POSSIBLE = BribedClerks.NOT_POSSIBLE;
    private static final int NONE = BribedClerks.NONE;
    private static final String[] WORDS = {
        "add", "drop", "weight", "bribe", "delete", "bring", "want"};
    // A number for each of its numbers, so that the command has no fault.
    private static final String[] COMMANDS = {
        "add 0 1 5", "drop 0 1", "weight 0 1", "bribe 0 1", "delete 1", "bring 1", "want 1"};

    private TextBoundariesTest() {
    }

    static void run() {
        runTexts();
        runType();
        runClearText();
        runPerform();
    }

    /** The fault of a text, or -1 if it has none. */
    private static int fault(String text) {
        BribedClerks x = new BribedClerks();
        Check.typeText(x, text);
        int answer = x.perform();
        return answer <= -100 ? -100 - answer : -1;
    }

    private static void dueFault(String text, int want) {
        Check.due("the fault of \"" + text + "\"", fault(text), want);
    }

    // ---- TEXTS

    private static void runTexts() {
        fortyCharacters();
        emptyAtFirst();
        blankAheadOfNumbers();
        oneToThreeDigits();
        zerosInFront();
        numbersOfCommands();
        wordEnds();
        otherWords();
        firstThatIsNotAllowed();
        endsTooEarly();
    }

    private static void fortyCharacters() {
        Place.in("TEXTS", "There is a text of at most 40 characters");
        BribedClerks x = new BribedClerks();
        for (int length = 1; length <= 40; length++) {
            Check.due("type", x.type('a'), length);
        }
        Check.due("the 41st", x.type('a'), FULL);
        Check.due("length", x.count(9), 40);
        Check.due("a full text can be read", x.perform(), -100);
        String full = "want 5" + " ".repeat(34);
        Check.duePerform(x, full, -106);
        Check.due("length", x.count(9), 40);
    }

    private static void emptyAtFirst() {
        Place.in("TEXTS", "empty at first");
        BribedClerks x = new BribedClerks();
        Check.due("length", x.count(9), 0);
        Check.due("perform", x.perform(), -100);
        Check.due("clearText", x.clearText(), 0);
    }

    private static void blankAheadOfNumbers() {
        Place.in("TEXTS", "and for each of its numbers a blank and the number");
        dueFault("add 0 1 5", -1);
        dueFault("add0 1 5", 3);
        dueFault("add  0 1 5", 4);
        dueFault("add 0,1 5", 5);
        dueFault("add 0  1 5", 6);
        dueFault("add 0 1\t5", 7);
        dueFault("add 0 1  5", 8);
        dueFault("add 0 1 5 ", 9);
        dueFault(" add 0 1 5", 0);
        dueFault("want" + (char) 160 + "5", 4);
    }

    private static void oneToThreeDigits() {
        Place.in("TEXTS", "(one to three digits");
        dueFault("want ", 5);
        dueFault("want 1", -1);
        dueFault("want 12", -1);
        dueFault("want 123", -1);
        dueFault("want 1234", 8);
        dueFault("want 999", -1);
        dueFault("want 1000", 8);
        dueFault("add 1000 1 5", 7);
        dueFault("add 100 1000 5", 11);
        dueFault("add 100 100 1000", 15);
        dueFault("want x", 5);
        dueFault("want /", 5);
        dueFault("want :", 5);
        dueFault("want -1", 5);
        dueFault("want +1", 5);
    }

    private static void zerosInFront() {
        Place.in("TEXTS", "without zeros in front unless it is the single digit 0)");
        dueFault("want 0", -1);
        dueFault("want 00", 6);
        dueFault("want 01", 6);
        dueFault("want 001", 6);
        dueFault("want 10", -1);
        dueFault("want 100", -1);
        dueFault("want 101", -1);
        dueFault("add 0 0 0", -1);
        dueFault("add 00 0 0", 5);
        dueFault("add 0 00 0", 7);
        dueFault("add 0 0 00", 9);
    }

    private static void numbersOfCommands() {
        Place.in("TEXTS", "The commands are \"add\" (a list, a document, a score)");
        for (int i = 0; i < COMMANDS.length; i++) {
            String command = COMMANDS[i];
            dueFault(command, -1);
            dueFault(command.substring(0, command.length() - 2), command.length() - 2);
            dueFault(command + " 1", command.length());
            dueFault(WORDS[i], WORDS[i].length());
        }
    }

    private static void wordEnds() {
        Place.in("TEXTS", "The word goes up to the first character that is no small letter (a to z)");
        char[] behind = {' ', '0', '9', 'A', 'Z', '`', '{', '@', '[', (char) 0, (char) 127, (char) 225,
            (char) (256 + 'a'), (char) 65535};
        for (char sign : behind) {
            String text = "want" + sign;
            dueFault(text, sign == ' ' ? 5 : 4);
        }
        dueFault("wanta", 0);
        dueFault("wantz", 0);
        dueFault("wAnt 5", 0);
        dueFault("want`5", 4);
    }

    private static void otherWords() {
        Place.in("TEXTS", "If it is none of these, the fault of the text is 0");
        String[] others = {"", "a", "ad", "addd", "aadd", "xdd", "axd", "adx", "dro", "drops", "drip",
            "weigh", "weights", "bribes", "brib", "bribg", "brin", "brings", "delet", "deletes", "wan",
            "wants", "wand", "undo", "keep", "restore", "begin", "step", "end", "type", "count", "z"};
        for (String word : others) {
            dueFault(word, 0);
            dueFault(word + " 1", 0);
            dueFault(word + " 0 1 5", 0);
        }
        dueFault("ADD 0 1 5", 0);
        dueFault("Add 0 1 5", 0);
        dueFault("0", 0);
        dueFault(" ", 0);
    }

    private static void firstThatIsNotAllowed() {
        Place.in("TEXTS", "of the first character behind the word that is not allowed at its place");
        String right = "add 0 1 500";
        for (int index = 3; index <= right.length(); index++) {
            dueFault(right.substring(0, index) + "?", index);
            dueFault(right.substring(0, index) + "?" + right.substring(index), index);
        }
        dueFault("weight? 0 ?", 6);
        dueFault("delete 1" + "?".repeat(32), 8);
    }

    private static void endsTooEarly() {
        Place.in("TEXTS", "or the length of the text if it ends too early");
        String[] right = {
            "add 1 2 3", "drop 1 2", "weight 1 2", "bribe 1 2", "delete 1", "bring 1", "want 1"};
        for (int i = 0; i < right.length; i++) {
            for (int length = WORDS[i].length(); length < right[i].length(); length++) {
                dueFault(right[i].substring(0, length), length);
            }
            dueFault(right[i], -1);
        }
    }

    // ---- promises 12 and 13

    private static void runType() {
        typeBehind();
        typeAny();
        typeLength();
        typeFull();
    }

    private static void typeBehind() {
        Place.in("Promise 12", "Types a character behind the text");
        BribedClerks x = new BribedClerks();
        Check.typeText(x, "want ");
        Check.due("too early", x.perform(), -105);
        x.type('4');
        Check.due("at the end", x.perform(), 3);
        x.type('2');
        Check.due("behind it", x.perform(), BAD_VALUE);
    }

    private static void typeAny() {
        Place.in("Promise 12", "`character`: any character");
        BribedClerks x = new BribedClerks();
        int[] signs = {0, 1, 9, 10, 13, 32, 127, 128, 255, 256, 55296, 57343, 65534, 65535};
        for (int i = 0; i < signs.length; i++) {
            Check.due("the character " + signs[i], x.type((char) signs[i]), i + 1);
        }
        Check.due("length", x.count(9), signs.length);
    }

    private static void typeLength() {
        Place.in("Promise 12", "Returns the length of the text then");
        BribedClerks x = new BribedClerks();
        Check.due("the first", x.type('a'), 1);
        Check.due("the second", x.type('a'), 2);
        x.clearText();
        Check.due("the first again", x.type('b'), 1);
        for (int length = 2; length < 40; length++) {
            x.type('b');
        }
        Check.due("the last", x.type('b'), 40);
    }

    private static void typeFull() {
        Place.in("Promise 12", "FULL if it has 40 characters");
        BribedClerks x = new BribedClerks();
        Check.typeText(x, "want 4" + "?".repeat(33));
        Check.due("39 are not", x.type('?'), 40);
        Check.each("40 are", FULL, x.type('?'), x.type('a'), x.type((char) 0));
        Check.due("length", x.count(9), 40);
        Check.due("the text is as it was", x.perform(), -106);
        x.clearText();
        Check.due("room again", x.type('?'), 1);
    }

    private static void runClearText() {
        clearEmpties();
        clearLength();
    }

    private static void clearEmpties() {
        Place.in("Promise 13", "Empties the text");
        BribedClerks x = new BribedClerks();
        Check.typeText(x, "want 4");
        x.clearText();
        Check.due("length", x.count(9), 0);
        Check.due("no command", x.perform(), -100);
        x.type('w');
        Check.due("nothing of the old text is left", x.perform(), -100);
    }

    private static void clearLength() {
        Place.in("Promise 13", "Returns the length that it had");
        BribedClerks x = new BribedClerks();
        Check.due("empty", x.clearText(), 0);
        int[] lengths = {1, 39, 40, 41};
        for (int length : lengths) {
            for (int i = 0; i < length; i++) {
                x.type(' ');
            }
            Check.due("typed " + length, x.clearText(), Math.min(length, 40));
            Check.due("again", x.clearText(), 0);
        }
    }

    // ---- promise 14

    private static void runPerform() {
        performDoes();
        textStays();
        performIsOneAct();
        performFault();
        performAnswers();
        performErrors();
    }

    private static void performDoes() {
        Place.in("Promise 14", "Does what the command in the text tells");
        BribedClerks x = new BribedClerks();
        Check.duePerform(x, "add 5 59 999", 0);
        Check.row("add", new int[] {x.entry(5, 0, 0), x.entry(5, 0, 1)}, 59, 999);
        Check.duePerform(x, "weight 5 9", 0);
        Check.due("weight", x.list(5, 1), 9);
        Check.duePerform(x, "bribe 5 500", 0);
        Check.due("bribe", x.list(5, 2), 500);
        Check.duePerform(x, "delete 59", 1);
        Check.due("delete", x.document(59, 0), 1);
        Check.duePerform(x, "bring 59", 1);
        Check.due("bring", x.document(59, 0), 0);
        Check.duePerform(x, "want 10", 3);
        Check.due("want", x.count(2), 10);
        Check.duePerform(x, "drop 5 59", 0);
        Check.due("drop", x.list(5, 0), 0);
    }

    private static void textStays() {
        Place.in("Promise 14", "the text stays");
        BribedClerks x = new BribedClerks();
        Check.duePerform(x, "want 10", 3);
        Check.due("done", x.count(9), 7);
        Check.due("so already", x.perform(), NONE);
        x.want(5);
        Check.due("done again", x.perform(), 5);
        Check.duePerform(x, "want ten", -105);
        Check.due("with a fault", x.count(9), 8);
        Check.duePerform(x, "want 11", BAD_VALUE);
        Check.due("refused", x.count(9), 7);
    }

    private static void performIsOneAct() {
        Place.in("Promise 14", "This is an act, as the method is that does the same");
        BribedClerks x = new BribedClerks();
        String[] commands = {"add 0 1 5", "add 0 2 6", "weight 0 1", "bribe 0 1"};
        for (int i = 0; i < commands.length; i++) {
            Check.typeText(x, commands[i]);
            x.perform();
            Check.due("one state each", x.count(8), i + 1);
        }
        Check.due("undo", x.undo(), 3);
        Check.due("the bribe", x.list(0, 2), 0);
        Check.due("undo", x.undo(), 2);
        Check.due("the weight", x.list(0, 1), 0);
        Check.duePerform(x, "want 3", NONE);
        Check.duePerform(x, "want 0", BAD_VALUE);
        Check.duePerform(x, "want?", -104);
        Check.due("NONE, an error and a fault are not recorded", x.count(8), 2);
    }

    private static void performFault() {
        Place.in("Promise 14", "Returns -100 minus the fault of the text if it has one");
        BribedClerks x = new BribedClerks();
        Check.duePerform(x, "", -100);
        Check.duePerform(x, "add", -103);
        Check.duePerform(x, "add 100 100 100" + "?".repeat(25), -115);
        Check.duePerform(x, "a".repeat(40), -100);
        Check.duePerform(x, "drop 1 2 3", -108);
        Check.duePerform(x, "want 4?", -106);
        Check.due("nothing is done", x.count(2), 3);
        x.weight(0, 1);
        x.begin(0, false);
        Check.duePerform(x, "want 4?", -106);
        Check.duePerform(x, "add 6 60 0?", -110);
    }

    private static void performAnswers() {
        Place.in("Promise 14",
            "otherwise what add(), drop(), weight(), bribe(), delete(), bring() or want() returns");
        BribedClerks x = new BribedClerks();
        BribedClerks y = new BribedClerks();
        int[][] entries = {{0, 1, 50}, {0, 2, 40}, {0, 3, 40}, {0, 0, 40}, {1, 3, 9}};
        for (int[] entry : entries) {
            Check.duePerform(x, "add " + entry[0] + " " + entry[1] + " " + entry[2],
                y.add(entry[0], entry[1], entry[2]));
        }
        Check.duePerform(x, "delete 3", y.delete(3));
        Check.duePerform(x, "bring 3", y.bring(3));
        Check.duePerform(x, "weight 1 7", y.weight(1, 7));
        Check.duePerform(x, "weight 1 8", y.weight(1, 8));
        Check.duePerform(x, "bribe 1 70", y.bribe(1, 70));
        Check.duePerform(x, "bribe 1 80", y.bribe(1, 80));
        Check.duePerform(x, "want 1", y.want(1));
        Check.duePerform(x, "want 2", y.want(2));
        Check.duePerform(x, "drop 0 2", y.drop(0, 2));
        Check.due("the last answer", y.list(0, 0), 3);
    }

    private static void performErrors() {
        Place.in("Promise 14", "otherwise what add(), drop()");
        BribedClerks x = new BribedClerks();
        Check.duePerform(x, "add 6 0 0", UNKNOWN);
        Check.duePerform(x, "add 0 60 0", UNKNOWN);
        Check.duePerform(x, "add 0 59 0", BAD_VALUE);
        Check.duePerform(x, "drop 0 0", UNKNOWN);
        Check.duePerform(x, "weight 6 10", UNKNOWN);
        Check.duePerform(x, "weight 5 10", BAD_VALUE);
        Check.duePerform(x, "weight 5 0", NONE);
        Check.duePerform(x, "bribe 6 501", UNKNOWN);
        Check.duePerform(x, "bribe 5 501", BAD_VALUE);
        Check.duePerform(x, "bribe 5 0", NONE);
        Check.duePerform(x, "delete 60", UNKNOWN);
        Check.duePerform(x, "bring 60", UNKNOWN);
        Check.duePerform(x, "bring 59", NONE);
        Check.duePerform(x, "want 0", BAD_VALUE);
        Check.duePerform(x, "want 11", BAD_VALUE);
        Check.duePerform(x, "want 999", BAD_VALUE);
        Check.duePerform(x, "want 3", NONE);
        x.weight(0, 1);
        x.begin(0, false);
        for (String command : COMMANDS) {
            Check.duePerform(x, command, command.startsWith("drop") ? UNKNOWN : NOT_POSSIBLE);
        }
        BribedClerks full = new BribedClerks();
        for (int document = 0; document < 40; document++) {
            full.add(0, document, 5);
        }
        Check.duePerform(full, "add 0 40 5", FULL);
    }
}
