/** Counts the answers that are due and prints those that are not. */
final class Check {
    private static int passed = 0;
    private static int failed = 0;
    private static String promise = "";

    private Check() {
    }

    static void promise(String name) {
        promise = name;
    }

    static void due(String call, long got, long want) {
        if (got == want) {
            passed++;
        } else {
            failed++;
            System.out.println(promise + ": " + call + " answered " + got + ", due is " + want);
        }
    }

    static void holds(String what, boolean holds) {
        if (holds) {
            passed++;
        } else {
            failed++;
            System.out.println(promise + ": " + what);
        }
    }

    /** Checks that each of these calls answers the same. */
    static void each(String calls, long want, long... got) {
        for (int i = 0; i < got.length; i++) {
            due(calls + ", number " + i, got[i], want);
        }
    }

    /** Checks a row of answers. */
    static void row(String calls, int[] got, int... want) {
        due(calls + ", how many", got.length, want.length);
        for (int i = 0; i < Math.min(got.length, want.length); i++) {
            due(calls + ", number " + i, got[i], want[i]);
        }
    }

    static boolean allPassed() {
        System.out.println(passed + " passed, " + failed + " failed");
        return failed == 0;
    }

    static int failures() {
        return failed;
    }

    /** Makes an office with these entries: rows of a list, a document and a score. */
    static BribedClerks office(int[][] entries) {
        BribedClerks x = new BribedClerks();
        for (int[] entry : entries) {
            x.add(entry[0], entry[1], entry[2]);
        }
        return x;
    }

    static void typeText(BribedClerks x, String text) {
        x.clearText();
        for (int i = 0; i < text.length(); i++) {
            x.type(text.charAt(i));
        }
    }

    static void duePerform(BribedClerks x, String text, int want) {
        typeText(x, text);
        due("perform() of \"" + text + "\"", x.perform(), want);
    }
}
