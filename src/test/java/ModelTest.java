/**
 * Long runs of calls, held beside PlainOffice. The numbers come from a fixed row, so that every run
 * of the tests makes the same calls.
 */
final class ModelTest {
    private static final int RUNS = 600;
    private static final int CALLS = 512;
    private static final String[] WORDS = {
        "add", "drop", "weight", "bribe", "delete", "bring", "want", "ad", "begin", "wants"};
    private static final int[] NUMBERS_OF_WORDS = {3, 2, 2, 2, 1, 1, 1, 3, 1, 1};

    private final BribedClerks real = new BribedClerks();
    private final PlainOffice plain = new PlainOffice();
    private long row;
    private final int documents;
    private final int scores;
    private final int firstEntries;
    private final int wrongs;

    private ModelTest(int run) {
        row = 88172645463325252L + 7919L * run;
        for (int i = 0; i < 10; i++) {
            next(2);
        }
        int[] kinds = {3, 8, 20, 60, 60};
        documents = kinds[run % kinds.length];
        int[] tops = {3, 12, 100, 999};
        scores = tops[run % tops.length];
        firstEntries = run % 3 == 0 ? 0 : run % 3 == 1 ? 40 : 160;
        wrongs = run % 7 == 0 ? 5 : 40;
    }

    static void run() {
        for (int run = 0; run < RUNS && Check.failures() < 20; run++) {
            Check.promise("model, run " + run);
            new ModelTest(run).calls();
        }
    }

    private int next(int bound) {
        row ^= row << 13;
        row ^= row >>> 7;
        row ^= row << 17;
        return (int) Math.floorMod(row >>> 11, (long) bound);
    }

    /** Mostly from 0 up to the bound, and at times a number that is wrong. */
    private int about(int bound) {
        if (next(wrongs) > 0) {
            return next(bound);
        }
        int[] wrong = {-1, bound, bound + 1, -5, Integer.MAX_VALUE, Integer.MIN_VALUE, 1000, 64, 0};
        return wrong[next(wrong.length)];
    }

    private void calls() {
        for (int i = 0; i < firstEntries; i++) {
            add();
        }
        for (int i = 0; i < 3 && firstEntries > 0; i++) {
            int list = next(6);
            int weight = 1 + next(9);
            Check.due("weight", real.weight(list, weight), plain.weight(list, weight));
        }
        for (int i = firstEntries; i < CALLS; i++) {
            int kind = next(100);
            if (kind < 30) {
                change();
            } else if (kind < 45) {
                read();
            } else if (kind < 50) {
                goBack();
            } else {
                ask();
            }
        }
    }

    private void add() {
        int list = about(6);
        int document = about(documents);
        int score = 1 + about(scores);
        Check.due("add " + list + " " + document + " " + score,
            real.add(list, document, score), plain.add(list, document, score));
    }

    private void change() {
        int list = about(6);
        int document = about(documents);
        switch (next(10)) {
            case 0 -> Check.due("drop", real.drop(list, document), plain.drop(list, document));
            case 1 -> Check.due("delete", real.delete(document), plain.delete(document));
            case 2 -> Check.due("bring", real.bring(document), plain.bring(document));
            case 3 -> {
                int weight = about(10);
                Check.due("weight", real.weight(list, weight), plain.weight(list, weight));
            }
            case 4 -> {
                int k = about(11);
                Check.due("want", real.want(k), plain.want(k));
            }
            case 5 -> {
                int bribe = next(2) == 0 ? about(501) : about(scores);
                Check.due("bribe", real.bribe(list, bribe), plain.bribe(list, bribe));
            }
            case 6 -> perform();
            default -> add();
        }
    }

    private void perform() {
        int word = next(WORDS.length + 7) % WORDS.length;
        StringBuilder text = new StringBuilder(WORDS[word]);
        int numbers = NUMBERS_OF_WORDS[word];
        int[] tops = {numbers == 1 ? documents : 6, numbers == 3 ? documents : 20, scores};
        for (int i = 0; i < numbers; i++) {
            text.append(' ').append(Math.abs(about(tops[i])));
        }
        if (next(3) == 0) {
            int place = next(text.length() + 1);
            text.insert(place, " 0123456789xadXé-".charAt(next(17)));
        }
        if (next(4) == 0) {
            text.deleteCharAt(next(text.length()));
        }
        if (next(12) > 0) {
            Check.due("clearText", real.clearText(), plain.clearText());
        }
        for (int i = 0; i < text.length(); i++) {
            Check.due("type", real.type(text.charAt(i)), plain.type(text.charAt(i)));
        }
        Check.due("perform \"" + text + "\"", real.perform(), plain.perform());
    }

    private void read() {
        int way = about(3);
        boolean looksUp = next(2) == 1;
        int steps = next(3) == 0 ? about(241) : 1 + next(6);
        switch (next(8)) {
            case 0, 1, 2 -> {
                int got = real.begin(way, looksUp);
                Check.due("begin " + way + " " + looksUp, got, plain.begin(way, looksUp));
            }
            case 3 -> Check.due("end", real.end(), plain.end());
            default -> Check.due("step " + steps, real.step(steps), plain.step(steps));
        }
    }

    private void goBack() {
        switch (next(5)) {
            case 0 -> Check.due("keep", real.keep(), plain.keep());
            case 1 -> Check.due("restore", real.restore(), plain.restore());
            default -> Check.due("undo", real.undo(), plain.undo());
        }
    }

    private void ask() {
        int list = about(6);
        int document = about(documents);
        int place = about(12);
        switch (next(16)) {
            case 0 -> {
                int what = about(5);
                Check.due("list " + what, real.list(list, what), plain.list(list, what));
            }
            case 1 -> {
                int what = about(2);
                Check.due("entry", real.entry(list, place, what), plain.entry(list, place, what));
            }
            case 2 -> {
                int what = about(4);
                Check.due("document " + what,
                    real.document(document, what), plain.document(document, what));
            }
            case 3 -> Check.due("wanted", real.wanted(place), plain.wanted(place));
            case 4, 5 -> {
                int what = about(5);
                Check.due("clerk " + what, real.clerk(list, what), plain.clerk(list, what));
            }
            case 6, 7, 8 -> {
                int what = about(5);
                Check.due("seen " + what, real.seen(document, what), plain.seen(document, what));
            }
            case 9 -> Check.due("told " + place, real.told(place), plain.told(place));
            case 10, 11, 12 -> {
                int what = about(13);
                Check.due("reading " + what, real.reading(what), plain.reading(what));
            }
            case 13 -> {
                int way = about(3);
                int what = about(4);
                boolean looksUp = next(2) == 1;
                Check.due("trial " + way + " " + looksUp + " " + what,
                    real.trial(way, looksUp, what), plain.trial(way, looksUp, what));
            }
            case 14 -> {
                int what = about(10);
                Check.due("count " + what, real.count(what), plain.count(what));
            }
            default -> {
                if (next(4) == 0) {
                    Check.due("cheapest", real.cheapest(), plain.cheapest());
                }
            }
        }
    }
}
