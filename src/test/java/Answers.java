import java.util.Arrays;

/** What an office tells at one moment, so that two moments can be held beside each other. */
final class Answers {
    private static final int DOCUMENTS = 8;

    private final int[] answers = new int[400];
    private int size = 0;

    static int[] reading(BribedClerks x) {
        int[] answers = new int[13];
        for (int what = 0; what < 13; what++) {
            answers[what] = x.reading(what);
        }
        return answers;
    }

    static int[] clerk(BribedClerks x, int list) {
        int[] answers = new int[5];
        for (int what = 0; what < 5; what++) {
            answers[what] = x.clerk(list, what);
        }
        return answers;
    }

    static int[] seen(BribedClerks x, int document) {
        int[] answers = new int[5];
        for (int what = 0; what < 5; what++) {
            answers[what] = x.seen(document, what);
        }
        return answers;
    }

    static int[] trial(BribedClerks x, int way, boolean looksUp) {
        int[] answers = new int[4];
        for (int what = 0; what < 4; what++) {
            answers[what] = x.trial(way, looksUp, what);
        }
        return answers;
    }

    /** Asks for the documents 0 to 7 and all lists; it takes some 200 calls. */
    static Answers of(BribedClerks x) {
        Answers all = new Answers();
        all.noteLists(x);
        all.noteDocuments(x);
        all.noteReading(x);
        for (int what = 0; what < 10; what++) {
            all.note(x.count(what));
        }
        all.note(x.cheapest());
        return all;
    }

    private void note(int... more) {
        for (int answer : more) {
            answers[size] = answer;
            size++;
        }
    }

    private void noteLists(BribedClerks x) {
        for (int list = 0; list < 6; list++) {
            for (int what = 0; what < 5; what++) {
                note(x.list(list, what));
            }
            int entries = x.list(list, 0);
            for (int place = 0; place < entries && place < DOCUMENTS; place++) {
                note(x.entry(list, place, 0), x.entry(list, place, 1));
            }
        }
    }

    private void noteDocuments(BribedClerks x) {
        for (int document = 0; document < DOCUMENTS; document++) {
            note(x.document(document, 0), x.document(document, 3));
        }
    }

    private void noteReading(BribedClerks x) {
        if (x.count(5) == 0) {
            return;
        }
        note(reading(x));
        for (int list = 0; list < 6; list++) {
            note(clerk(x, list));
        }
        for (int document = 0; document < DOCUMENTS; document++) {
            note(seen(x, document));
        }
        for (int place = 0; place < 4; place++) {
            note(x.told(place));
        }
    }

    /** Checks that another moment tells the same. */
    void dueAgain(String moment, Answers other) {
        Check.row(moment, Arrays.copyOf(other.answers, other.size), Arrays.copyOf(answers, size));
    }
}
