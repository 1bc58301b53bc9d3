import java.util.Arrays;

/**
 * An office of lists in which clerks read from the best entry down, and may stop when the best
 * documents are safe. Clerks can be bribed to tell less than they know.
 *
 * Every row is made once, with the object, and used again: no call makes an object.
 */
public final class BribedClerks {
    public static final int UNKNOWN = -1;
    public static final int BAD_VALUE = -2;
    public static final int FULL = -3;
    public static final int NOT_POSSIBLE = -4;
    public static final int NONE = -5;

    private static final int LISTS = 6;
    private static final int DOCUMENTS = 60;
    private static final int LIST_ROOM = 40;
    private static final int TOP_SCORE = 999;
    private static final int TOP_WEIGHT = 9;
    private static final int TOP_WANT = 10;
    private static final int FIRST_WANT = 3;
    private static final int TOP_BRIBE = 500;

    private static final int IN_TURN = 0;
    private static final int BY_BOUNDS = 1;
    private static final int BY_REST = 2;
    // Each way with and without looking up.
    private static final int READINGS = 6;
    private static final int ALL_ENTRIES = LISTS * LIST_ROOM;
    private static final int LOOK_UP_COST = 3;

    private static final int TEXT_ROOM = 40;
    private static final int FAULT_BASE = -100;
    private static final int NO_FAULT = -1;
    private static final int NO_COMMAND = -1;
    private static final int ADD = 0;
    private static final int DROP = 1;
    private static final int WEIGHT = 2;
    private static final int BRIBE = 3;
    private static final int DELETE = 4;
    private static final int BRING = 5;
    private static final int WANT = 6;
    private static final int COMMANDS = 7;
    private static final int MOST_NUMBERS = 3;
    private static final int MOST_DIGITS = 3;

    private static final int STATES = 4;

    private final State now;
    private final History history;
    private final State snapshot;
    private boolean hasSnapshot;
    private final Text text;
    // Trials run here, so that they leave the reading that is on as it is.
    private final Reading rehearsal;

    public BribedClerks() {
        now = new State();
        history = new History();
        snapshot = new State();
        hasSnapshot = false;
        text = new Text();
        rehearsal = new Reading();
    }

    // ---- lists and the question

    public int add(int list, int document, int score) {
        if (!isList(list) || !isDocument(document)) {
            return UNKNOWN;
        }
        if (score < 1 || score > TOP_SCORE) {
            return BAD_VALUE;
        }
        if (now.reading.on) {
            return NOT_POSSIBLE;
        }
        int before = now.office.scoreOf(list, document);
        if (before == 0 && now.office.sizeOf(list) >= LIST_ROOM) {
            return FULL;
        }
        if (before == score) {
            return NONE;
        }
        history.record(now);
        return now.office.putIn(list, document, score);
    }

    public int drop(int list, int document) {
        if (!isList(list) || !isDocument(document)) {
            return UNKNOWN;
        }
        if (now.office.scoreOf(list, document) == 0) {
            return UNKNOWN;
        }
        if (now.reading.on) {
            return NOT_POSSIBLE;
        }
        history.record(now);
        now.office.takeOut(list, document);
        return now.office.sizeOf(list);
    }

    public int delete(int document) {
        return setDeleted(document, true);
    }

    public int bring(int document) {
        return setDeleted(document, false);
    }

    private int setDeleted(int document, boolean deleted) {
        if (!isDocument(document)) {
            return UNKNOWN;
        }
        if (now.reading.on) {
            return NOT_POSSIBLE;
        }
        if (now.office.isDeleted(document) == deleted) {
            return NONE;
        }
        history.record(now);
        now.office.deleted ^= 1L << document;
        return Integer.bitCount(now.office.listsWith(document));
    }

    public int weight(int list, int weight) {
        return setOfList(now.office.weights, list, weight, TOP_WEIGHT);
    }

    public int want(int k) {
        if (k < 1 || k > TOP_WANT) {
            return BAD_VALUE;
        }
        if (now.reading.on) {
            return NOT_POSSIBLE;
        }
        int before = now.office.most;
        if (before == k) {
            return NONE;
        }
        history.record(now);
        now.office.most = k;
        return before;
    }

    public int bribe(int list, int bribe) {
        return setOfList(now.office.bribes, list, bribe, TOP_BRIBE);
    }

    private int setOfList(int[] row, int list, int value, int top) {
        if (!isList(list)) {
            return UNKNOWN;
        }
        if (value < 0 || value > top) {
            return BAD_VALUE;
        }
        if (now.reading.on) {
            return NOT_POSSIBLE;
        }
        int before = at(row, list);
        if (before == value) {
            return NONE;
        }
        history.record(now);
        put(row, list, value);
        return before;
    }

    // ---- readings

    public int begin(int way, boolean looksUp) {
        if (!isWay(way)) {
            return BAD_VALUE;
        }
        if (now.reading.on || now.office.questionSize() == 0) {
            return NOT_POSSIBLE;
        }
        history.record(now);
        now.begun++;
        now.reading.start(now.office, way, looksUp);
        return oneIf(now.reading.isOver(now.office));
    }

    public int step(int steps) {
        if (steps < 1 || steps > ALL_ENTRIES) {
            return BAD_VALUE;
        }
        if (!now.reading.on) {
            return NOT_POSSIBLE;
        }
        if (now.reading.isOver(now.office)) {
            return NONE;
        }
        history.record(now);
        int caughtBefore = now.reading.caughtSize();
        int done = now.reading.goOn(now.office, steps);
        now.caughtInAll += now.reading.caughtSize() - caughtBefore;
        return done;
    }

    public int end() {
        if (!now.reading.on) {
            return NOT_POSSIBLE;
        }
        history.record(now);
        now.reading.on = false;
        return now.reading.toldSize(now.office);
    }

    // ---- texts

    public int type(char character) {
        if (text.length >= TEXT_ROOM) {
            return FULL;
        }
        text.append(character);
        return text.length;
    }

    public int clearText() {
        int before = text.length;
        text.length = 0;
        return before;
    }

    public int perform() {
        int fault = text.readCommand();
        if (fault != NO_FAULT) {
            return FAULT_BASE - fault;
        }
        int first = at(text.numbers, 0);
        int second = at(text.numbers, 1);
        int third = at(text.numbers, 2);
        switch (text.command) {
            case ADD:
                return add(first, second, third);
            case DROP:
                return drop(first, second);
            case WEIGHT:
                return weight(first, second);
            case BRIBE:
                return bribe(first, second);
            case DELETE:
                return delete(first);
            case BRING:
                return bring(first);
            default:
                return want(first);
        }
    }

    // ---- history

    public int undo() {
        if (history.size == 0) {
            return NONE;
        }
        history.takeLatest(now);
        return history.size;
    }

    public int keep() {
        snapshot.copyFrom(now);
        hasSnapshot = true;
        return now.office.entries();
    }

    public int restore() {
        if (!hasSnapshot) {
            return NONE;
        }
        history.record(now);
        now.copyFrom(snapshot);
        return now.office.entries();
    }

    // ---- what is told

    public int list(int list, int what) {
        if (!isList(list)) {
            return UNKNOWN;
        }
        switch (what) {
            case 0:
                return now.office.sizeOf(list);
            case 1:
                return now.office.weightOf(list);
            case 2:
                return at(now.office.bribes, list);
            case 3:
                return now.office.scoreAt(list, 0);
            case 4:
                return now.office.deletedIn(list);
            default:
                return BAD_VALUE;
        }
    }

    public int entry(int list, int place, int what) {
        if (!isList(list)) {
            return UNKNOWN;
        }
        if (place < 0 || what < 0 || what > 1) {
            return BAD_VALUE;
        }
        if (place >= now.office.sizeOf(list)) {
            return NONE;
        }
        return what == 0 ? now.office.documentAt(list, place) : now.office.scoreAt(list, place);
    }

    public int document(int document, int what) {
        if (!isDocument(document)) {
            return UNKNOWN;
        }
        switch (what) {
            case 0:
                return oneIf(now.office.isDeleted(document));
            case 1:
                return now.office.valueOf(document);
            case 2:
                return now.office.listsWith(document);
            case 3:
                return now.office.wantedPlaceOf(document);
            default:
                return BAD_VALUE;
        }
    }

    public int wanted(int place) {
        if (place < 0) {
            return BAD_VALUE;
        }
        return now.office.wantedAt(place);
    }

    public int clerk(int list, int what) {
        if (!isList(list)) {
            return UNKNOWN;
        }
        if (what < 0 || what > 4) {
            return BAD_VALUE;
        }
        if (!now.reading.on) {
            return NOT_POSSIBLE;
        }
        if (!now.office.isAsked(list)) {
            return NONE;
        }
        switch (what) {
            case 0:
                return at(now.reading.read, list);
            case 1:
                return at(now.reading.toldBounds, list);
            case 2:
                return at(now.reading.trueBounds, list);
            case 3:
                return oneIf(now.reading.isCaught(list));
            default:
                return at(now.reading.lookUps, list);
        }
    }

    public int seen(int document, int what) {
        if (!isDocument(document)) {
            return UNKNOWN;
        }
        if (what < 0 || what > 4) {
            return BAD_VALUE;
        }
        if (!now.reading.on) {
            return NOT_POSSIBLE;
        }
        if (!now.reading.isSeen(document)) {
            return NONE;
        }
        switch (what) {
            case 0:
                return at(now.reading.lows, document);
            case 1:
                return now.reading.highOf(now.office, document);
            case 2:
                return now.reading.knownListsOf(now.office, document);
            case 3:
                return now.reading.frontPlaceOf(document);
            default:
                return at(now.reading.firstSteps, document);
        }
    }

    public int told(int place) {
        if (place < 0) {
            return BAD_VALUE;
        }
        if (!now.reading.on) {
            return NOT_POSSIBLE;
        }
        return place < now.reading.toldSize(now.office) ? at(now.reading.front, place) : NONE;
    }

    public int reading(int what) {
        if (what < 0 || what > 12) {
            return BAD_VALUE;
        }
        if (!now.reading.on) {
            return NOT_POSSIBLE;
        }
        switch (what) {
            case 0:
                return now.reading.steps;
            case 1:
                return now.reading.wasted;
            case 2:
                return now.reading.allLookUps();
            case 3:
                return now.reading.cost();
            case 4:
                return now.reading.seenSize;
            case 5:
                return now.reading.toldSize(now.office);
            case 6:
                return oneIf(now.reading.isOver(now.office));
            case 7:
                return now.reading.isOver(now.office) ? NONE : now.reading.nextList(now.office);
            case 8:
                return now.reading.weighedBounds(now.office);
            case 9:
                return now.reading.lowOfLastTold(now.office);
            case 10:
                return now.reading.caughtSize();
            case 11:
                return now.reading.toldNotWanted(now.office);
            default:
                return now.reading.tellingLess(now.office);
        }
    }

    public int trial(int way, boolean looksUp, int what) {
        if (!isWay(way) || what < 0 || what > 3) {
            return BAD_VALUE;
        }
        if (now.office.questionSize() == 0) {
            return NOT_POSSIBLE;
        }
        rehearsal.start(now.office, way, looksUp);
        rehearsal.goOn(now.office, ALL_ENTRIES);
        switch (what) {
            case 0:
                return rehearsal.steps;
            case 1:
                return rehearsal.cost();
            case 2:
                return rehearsal.toldNotWanted(now.office);
            default:
                return rehearsal.caughtSize();
        }
    }

    public int cheapest() {
        if (now.office.questionSize() == 0) {
            return NOT_POSSIBLE;
        }
        int best = 0;
        int bestCost = 0;
        for (int number = 0; number < READINGS; number++) {
            rehearsal.start(now.office, number >> 1, (number & 1) == 1);
            rehearsal.goOn(now.office, ALL_ENTRIES);
            int cost = rehearsal.cost();
            if (number == 0 || cost < bestCost) {
                best = number;
                bestCost = cost;
            }
        }
        return best;
    }

    public int count(int what) {
        switch (what) {
            case 0:
                return now.office.entries();
            case 1:
                return now.office.questionSize();
            case 2:
                return now.office.most;
            case 3:
                return Long.bitCount(now.office.deleted);
            case 4:
                return now.office.wantedSize();
            case 5:
                return oneIf(now.reading.on);
            case 6:
                return now.begun;
            case 7:
                return now.caughtInAll;
            case 8:
                return history.size;
            case 9:
                return text.length;
            default:
                return BAD_VALUE;
        }
    }

    // ---- what all parts use

    private static boolean isList(int list) {
        return list >= 0 && list < LISTS;
    }

    private static boolean isDocument(int document) {
        return document >= 0 && document < DOCUMENTS;
    }

    private static boolean isWay(int way) {
        return way >= IN_TURN && way <= BY_REST;
    }

    private static int oneIf(boolean holds) {
        return holds ? 1 : 0;
    }

    // Rows are read and written here alone, so that no index is used untested.
    private static int at(int[] row, int index) {
        return index >= 0 && index < row.length ? row[index] : 0;
    }

    private static void put(int[] row, int index, int value) {
        if (index >= 0 && index < row.length) {
            row[index] = value;
        }
    }

    private static void copyRow(int[] from, int[] to) {
        System.arraycopy(from, 0, to, 0, Math.min(from.length, to.length));
    }

    /** The lists, the documents and the question. */
    private static final class Office {
        // By list and document; 0 where the list does not have the document.
        private final int[] scores = new int[LISTS * DOCUMENTS];
        // By list and place: the documents in the order of their entries.
        private final int[] order = new int[LISTS * LIST_ROOM];
        private final int[] sizes = new int[LISTS];
        private final int[] weights = new int[LISTS];
        private final int[] bribes = new int[LISTS];
        // A bit for each document.
        private long deleted = 0;
        private int most = FIRST_WANT;

        private void copyFrom(Office other) {
            copyRow(other.scores, scores);
            copyRow(other.order, order);
            copyRow(other.sizes, sizes);
            copyRow(other.weights, weights);
            copyRow(other.bribes, bribes);
            deleted = other.deleted;
            most = other.most;
        }

        private int sizeOf(int list) {
            return at(sizes, list);
        }

        private int weightOf(int list) {
            return at(weights, list);
        }

        private boolean isAsked(int list) {
            return at(weights, list) > 0;
        }

        private int questionSize() {
            int size = 0;
            for (int list = 0; list < LISTS; list++) {
                size += oneIf(isAsked(list));
            }
            return size;
        }

        private int entries() {
            int sum = 0;
            for (int list = 0; list < LISTS; list++) {
                sum += at(sizes, list);
            }
            return sum;
        }

        private int scoreOf(int list, int document) {
            return isDocument(document) ? at(scores, list * DOCUMENTS + document) : 0;
        }

        private int documentAt(int list, int place) {
            return at(order, list * LIST_ROOM + place);
        }

        // 0 behind the last entry, as the bound is that a clerk tells there.
        private int scoreAt(int list, int place) {
            return place < at(sizes, list) ? scoreOf(list, documentAt(list, place)) : 0;
        }

        private int putIn(int list, int document, int score) {
            takeOut(list, document);
            int size = at(sizes, list);
            int place = 0;
            while (place < size && standsAhead(list, place, document, score)) {
                place++;
            }
            int start = list * LIST_ROOM;
            for (int i = size; i > place; i--) {
                put(order, start + i, at(order, start + i - 1));
            }
            put(order, start + place, document);
            put(sizes, list, size + 1);
            put(scores, list * DOCUMENTS + document, score);
            return place;
        }

        private boolean standsAhead(int list, int place, int document, int score) {
            int other = scoreAt(list, place);
            return other > score || other == score && documentAt(list, place) < document;
        }

        private void takeOut(int list, int document) {
            if (scoreOf(list, document) == 0) {
                return;
            }
            int size = at(sizes, list);
            int start = list * LIST_ROOM;
            int place = 0;
            while (place < size && at(order, start + place) != document) {
                place++;
            }
            for (int i = place + 1; i < size; i++) {
                put(order, start + i - 1, at(order, start + i));
            }
            put(sizes, list, size - 1);
            put(scores, list * DOCUMENTS + document, 0);
        }

        private boolean isDeleted(int document) {
            return (deleted >> document & 1) == 1;
        }

        private int deletedIn(int list) {
            int number = 0;
            int size = at(sizes, list);
            for (int place = 0; place < size; place++) {
                number += oneIf(isDeleted(documentAt(list, place)));
            }
            return number;
        }

        private int listsWith(int document) {
            int bits = 0;
            for (int list = 0; list < LISTS; list++) {
                bits |= oneIf(scoreOf(list, document) > 0) << list;
            }
            return bits;
        }

        private int valueOf(int document) {
            int value = 0;
            for (int list = 0; list < LISTS; list++) {
                value += at(weights, list) * scoreOf(list, document);
            }
            return value;
        }

        private boolean isAnswer(int document) {
            return !isDeleted(document) && valueOf(document) > 0;
        }

        private int wantedPlaceOf(int document) {
            if (!isAnswer(document)) {
                return NONE;
            }
            int value = valueOf(document);
            int place = 0;
            for (int other = 0; other < DOCUMENTS; other++) {
                int otherValue = isDeleted(other) ? 0 : valueOf(other);
                if (otherValue > value || otherValue == value && other < document) {
                    place++;
                }
            }
            return place < most ? place : NONE;
        }

        private int wantedAt(int place) {
            for (int document = 0; document < DOCUMENTS; document++) {
                if (wantedPlaceOf(document) == place) {
                    return document;
                }
            }
            return NONE;
        }

        private int wantedSize() {
            int answers = 0;
            for (int document = 0; document < DOCUMENTS; document++) {
                answers += oneIf(isAnswer(document));
            }
            return Math.min(answers, most);
        }
    }

    /** A reading of the question of an office, which stays as it is meanwhile. */
    private static final class Reading {
        private boolean on = false;
        private int way = IN_TURN;
        private boolean looksUp = false;
        private int lastList = 0;
        private int steps = 0;
        private int wasted = 0;
        // A bit for each list.
        private int caught = 0;
        // By list.
        private final int[] read = new int[LISTS];
        private final int[] lookUps = new int[LISTS];
        private final int[] trueBounds = new int[LISTS];
        private final int[] toldBounds = new int[LISTS];
        // By document: a bit for each list that was read or looked up; 0 is not seen.
        private final int[] known = new int[DOCUMENTS];
        private final int[] lows = new int[DOCUMENTS];
        private final int[] firstSteps = new int[DOCUMENTS];
        // By place: the documents that are seen.
        private final int[] front = new int[DOCUMENTS];
        private int seenSize = 0;

        private void copyFrom(Reading other) {
            on = other.on;
            way = other.way;
            looksUp = other.looksUp;
            lastList = other.lastList;
            steps = other.steps;
            wasted = other.wasted;
            caught = other.caught;
            copyRow(other.read, read);
            copyRow(other.lookUps, lookUps);
            copyRow(other.trueBounds, trueBounds);
            copyRow(other.toldBounds, toldBounds);
            copyRow(other.known, known);
            copyRow(other.lows, lows);
            copyRow(other.firstSteps, firstSteps);
            copyRow(other.front, front);
            seenSize = other.seenSize;
        }

        private void start(Office office, int newWay, boolean newLooksUp) {
            on = true;
            way = newWay;
            looksUp = newLooksUp;
            // As if the highest list had been read: the turn begins with the lowest one.
            lastList = LISTS - 1;
            steps = 0;
            wasted = 0;
            caught = 0;
            seenSize = 0;
            Arrays.fill(read, 0);
            Arrays.fill(lookUps, 0);
            Arrays.fill(known, 0);
            Arrays.fill(lows, 0);
            for (int list = 0; list < LISTS; list++) {
                findBounds(office, list);
            }
        }

        private void findBounds(Office office, int list) {
            int bound = office.scoreAt(list, at(read, list));
            int bribe = isCaught(list) ? 0 : at(office.bribes, list);
            put(trueBounds, list, bound);
            put(toldBounds, list, Math.max(0, bound - bribe));
        }

        private int goOn(Office office, int limit) {
            int done = 0;
            while (done < limit && !isOver(office)) {
                readEntry(office, nextList(office));
                done++;
            }
            return done;
        }

        private void readEntry(Office office, int list) {
            int place = at(read, list);
            int document = office.documentAt(list, place);
            if (office.scoreOf(list, document) > at(toldBounds, list)) {
                caught |= 1 << list;
            }
            put(read, list, place + 1);
            findBounds(office, list);
            if (office.isDeleted(document)) {
                wasted++;
            } else {
                see(office, list, document);
            }
            lastList = list;
            steps++;
        }

        private void see(Office office, int listRead, int document) {
            boolean isNew = !isSeen(document);
            if (isNew) {
                put(firstSteps, document, steps);
                put(front, seenSize, document);
                seenSize++;
            }
            learn(office, listRead, document);
            if (isNew && looksUp) {
                for (int list = 0; list < LISTS; list++) {
                    if (list != listRead && office.isAsked(list)) {
                        put(lookUps, list, at(lookUps, list) + 1);
                        learn(office, list, document);
                    }
                }
            }
            moveAhead(document);
        }

        private void learn(Office office, int list, int document) {
            int before = at(known, document);
            if ((before >> list & 1) == 0) {
                int gain = office.weightOf(list) * office.scoreOf(list, document);
                put(known, document, before | 1 << list);
                put(lows, document, at(lows, document) + gain);
            }
        }

        // A low value never sinks, so a document moves towards the first place alone.
        private void moveAhead(int document) {
            int place = frontPlaceOf(document);
            while (place > 0 && isAhead(document, at(front, place - 1))) {
                put(front, place, at(front, place - 1));
                put(front, place - 1, document);
                place--;
            }
        }

        private boolean isAhead(int document, int other) {
            int low = at(lows, document);
            int otherLow = at(lows, other);
            return low > otherLow || low == otherLow && document < other;
        }

        private int nextList(Office office) {
            switch (way) {
                case IN_TURN:
                    return nextInTurn(office);
                case BY_BOUNDS:
                    return nextByBounds(office);
                default:
                    return nextByRest(office);
            }
        }

        private int nextInTurn(Office office) {
            for (int i = 1; i <= LISTS; i++) {
                int list = (lastList + i) % LISTS;
                if (hasRest(office, list)) {
                    return list;
                }
            }
            return NONE;
        }

        private int nextByBounds(Office office) {
            int best = NONE;
            int bestBound = -1;
            for (int list = 0; list < LISTS; list++) {
                int bound = office.weightOf(list) * at(toldBounds, list);
                if (hasRest(office, list) && bound > bestBound) {
                    best = list;
                    bestBound = bound;
                }
            }
            return best;
        }

        private int nextByRest(Office office) {
            int best = NONE;
            int bestRest = LIST_ROOM + 1;
            for (int list = 0; list < LISTS; list++) {
                int rest = office.sizeOf(list) - at(read, list);
                if (hasRest(office, list) && rest < bestRest) {
                    best = list;
                    bestRest = rest;
                }
            }
            return best;
        }

        private boolean hasRest(Office office, int list) {
            return office.isAsked(list) && at(read, list) < office.sizeOf(list);
        }

        private boolean isOver(Office office) {
            if (nextInTurn(office) == NONE) {
                return true;
            }
            if (seenSize < office.most) {
                return false;
            }
            int lastTold = at(front, office.most - 1);
            int low = at(lows, lastTold);
            if (weighedBounds(office) >= low) {
                return false;
            }
            for (int place = office.most; place < seenSize; place++) {
                int other = at(front, place);
                int high = highOf(office, other);
                if (high > low || high == low && other < lastTold) {
                    return false;
                }
            }
            return true;
        }

        private int highOf(Office office, int document) {
            int high = at(lows, document);
            int bits = at(known, document);
            for (int list = 0; list < LISTS; list++) {
                if ((bits >> list & 1) == 0) {
                    high += office.weightOf(list) * at(toldBounds, list);
                }
            }
            return high;
        }

        private int weighedBounds(Office office) {
            int sum = 0;
            for (int list = 0; list < LISTS; list++) {
                sum += office.weightOf(list) * at(toldBounds, list);
            }
            return sum;
        }

        private boolean isSeen(int document) {
            return at(known, document) != 0;
        }

        private int knownListsOf(Office office, int document) {
            int bits = at(known, document);
            for (int list = 0; list < LISTS; list++) {
                boolean isRead = office.isAsked(list) && !hasRest(office, list);
                bits |= oneIf(isRead) << list;
            }
            return bits;
        }

        private int frontPlaceOf(int document) {
            for (int place = 0; place < seenSize; place++) {
                if (at(front, place) == document) {
                    return place;
                }
            }
            return NONE;
        }

        private int toldSize(Office office) {
            return Math.min(seenSize, office.most);
        }

        private int lowOfLastTold(Office office) {
            int size = toldSize(office);
            return size == 0 ? 0 : at(lows, at(front, size - 1));
        }

        private int toldNotWanted(Office office) {
            int number = 0;
            int size = toldSize(office);
            for (int place = 0; place < size; place++) {
                number += oneIf(office.wantedPlaceOf(at(front, place)) == NONE);
            }
            return number;
        }

        private boolean isCaught(int list) {
            return (caught >> list & 1) == 1;
        }

        private int caughtSize() {
            return Integer.bitCount(caught);
        }

        private int tellingLess(Office office) {
            int number = 0;
            for (int list = 0; list < LISTS; list++) {
                boolean isLess = at(toldBounds, list) < at(trueBounds, list);
                number += oneIf(office.isAsked(list) && isLess);
            }
            return number;
        }

        private int allLookUps() {
            int sum = 0;
            for (int list = 0; list < LISTS; list++) {
                sum += at(lookUps, list);
            }
            return sum;
        }

        private int cost() {
            return steps + LOOK_UP_COST * allLookUps();
        }
    }

    /** All that undo() and restore() bring back. */
    private static final class State {
        private final Office office = new Office();
        private final Reading reading = new Reading();
        private int begun = 0;
        private int caughtInAll = 0;

        private void copyFrom(State other) {
            office.copyFrom(other.office);
            reading.copyFrom(other.reading);
            begun = other.begun;
            caughtInAll = other.caughtInAll;
        }
    }

    /** The latest states, the oldest one first. */
    private static final class History {
        private final State[] states = new State[STATES];
        private int size = 0;

        private History() {
            for (int i = 0; i < states.length; i++) {
                states[i] = new State();
            }
        }

        private void record(State state) {
            if (size >= STATES) {
                moveOldestToEnd();
                size = STATES - 1;
            }
            State free = stateAt(size);
            if (free != null) {
                free.copyFrom(state);
                size++;
            }
        }

        // The oldest state's rows are used again for the newest one.
        private void moveOldestToEnd() {
            for (int i = 1; i < states.length; i++) {
                State oldest = states[i - 1];
                states[i - 1] = states[i];
                states[i] = oldest;
            }
        }

        private void takeLatest(State state) {
            State latest = stateAt(size - 1);
            if (latest != null) {
                state.copyFrom(latest);
                size--;
            }
        }

        private State stateAt(int index) {
            return index >= 0 && index < states.length ? states[index] : null;
        }
    }

    /** The text, and the command that was last read from it. */
    private static final class Text {
        private final char[] signs = new char[TEXT_ROOM];
        private int length = 0;
        private int command = NO_COMMAND;
        private final int[] numbers = new int[MOST_NUMBERS];

        private void append(char sign) {
            if (length >= 0 && length < signs.length) {
                signs[length] = sign;
                length++;
            }
        }

        // No sign of a command is a 0, so it can stand for the end of the text.
        private char signAt(int index) {
            return index >= 0 && index < length && index < signs.length ? signs[index] : 0;
        }

        /** Tells where the fault of the text is, or NO_FAULT. */
        private int readCommand() {
            int index = wordLength();
            command = commandOfWord(index);
            if (command == NO_COMMAND) {
                return 0;
            }
            int due = numbersOf(command);
            for (int i = 0; i < due; i++) {
                if (signAt(index) != ' ') {
                    return index;
                }
                index++;
                int digits = digitsFrom(index);
                if (digits == 0) {
                    return index;
                }
                put(numbers, i, numberFrom(index, digits));
                index += digits;
            }
            return index < length ? index : NO_FAULT;
        }

        private int wordLength() {
            int end = 0;
            while (end < length && signAt(end) >= 'a' && signAt(end) <= 'z') {
                end++;
            }
            return end;
        }

        private int commandOfWord(int end) {
            for (int candidate = 0; candidate < COMMANDS; candidate++) {
                if (isWord(wordOf(candidate), end)) {
                    return candidate;
                }
            }
            return NO_COMMAND;
        }

        private boolean isWord(String word, int end) {
            if (word.length() != end) {
                return false;
            }
            for (int i = 0; i < word.length(); i++) {
                if (word.charAt(i) != signAt(i)) {
                    return false;
                }
            }
            return true;
        }

        private static String wordOf(int command) {
            switch (command) {
                case ADD:
                    return "add";
                case DROP:
                    return "drop";
                case WEIGHT:
                    return "weight";
                case BRIBE:
                    return "bribe";
                case DELETE:
                    return "delete";
                case BRING:
                    return "bring";
                default:
                    return "want";
            }
        }

        private static int numbersOf(int command) {
            switch (command) {
                case ADD:
                    return 3;
                case DROP:
                case WEIGHT:
                case BRIBE:
                    return 2;
                default:
                    return 1;
            }
        }

        // Behind a zero in front no digit is allowed: the number is that zero.
        private int digitsFrom(int start) {
            if (signAt(start) == '0') {
                return 1;
            }
            int digits = 0;
            while (digits < MOST_DIGITS && isDigit(signAt(start + digits))) {
                digits++;
            }
            return digits;
        }

        private static boolean isDigit(char sign) {
            return sign >= '0' && sign <= '9';
        }

        private int numberFrom(int start, int digits) {
            int number = 0;
            for (int i = 0; i < digits; i++) {
                number = 10 * number + (signAt(start + i) - '0');
            }
            return number;
        }
    }
}
