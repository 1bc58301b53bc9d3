/** What an office tells at one moment, so that two moments can be held beside each other. */
final class Answers {
    private static final int DOCUMENTS = 8;

    private final int[] answers = new int[400];
    private int size = 0;

    /** Asks for the documents 0 to 7 and all lists; it takes some 200 calls. */
    static Answers of(BribedClerks x) {
        Answers all = new Answers();
        all.lists(x);
        all.documents(x);
        all.reading(x);
        for (int what = 0; what < 10; what++) {
            all.note(x.count(what));
        }
        all.note(x.cheapest());
        return all;
    }

    private void note(int answer) {
        answers[size] = answer;
        size++;
    }

    private void lists(BribedClerks x) {
        for (int list = 0; list < 6; list++) {
            for (int what = 0; what < 5; what++) {
                note(x.list(list, what));
            }
            int entries = x.list(list, 0);
            for (int place = 0; place < entries && place < DOCUMENTS; place++) {
                note(x.entry(list, place, 0));
                note(x.entry(list, place, 1));
            }
        }
    }

    private void documents(BribedClerks x) {
        for (int document = 0; document < DOCUMENTS; document++) {
            note(x.document(document, 0));
            note(x.document(document, 3));
        }
    }

    private void reading(BribedClerks x) {
        if (x.count(5) == 0) {
            return;
        }
        for (int what = 0; what < 13; what++) {
            note(x.reading(what));
        }
        for (int what = 0; what < 5; what++) {
            for (int list = 0; list < 6; list++) {
                note(x.clerk(list, what));
            }
            for (int document = 0; document < DOCUMENTS; document++) {
                note(x.seen(document, what));
            }
        }
        for (int place = 0; place < 4; place++) {
            note(x.told(place));
        }
    }

    /** Checks that another moment tells the same, but for the states in the history if they differ. */
    void dueAgain(String moment, Answers other) {
        Check.due(moment + ", how many answers", other.size, size);
        for (int i = 0; i < size; i++) {
            Check.due(moment + ", answer " + i, other.answers[i], answers[i]);
        }
    }

    boolean isAs(Answers other) {
        return size == other.size && java.util.Arrays.equals(answers, other.answers);
    }
}
