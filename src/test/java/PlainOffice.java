import java.util.ArrayDeque;
import java.util.ArrayList;
import java.util.Arrays;
import java.util.Comparator;
import java.util.Deque;
import java.util.List;
import java.util.Map;
import java.util.Set;
import java.util.TreeMap;
import java.util.TreeSet;
import java.util.regex.Pattern;

/**
 * A second way to find every answer: a reading is kept as its number of steps alone, and is read
 * again from its beginning for each answer; states are copied whole; texts are matched by patterns.
 */
final class PlainOffice {
    private static final int UNKNOWN = -1;
    private static final int BAD_VALUE = -2;
    private static final int FULL = -3;
    private static final int NOT_POSSIBLE = -4;
    private static final int NONE = -5;

    private record Entry(int document, int score) {
    }

    private static final class State {
        final List<Map<Integer, Integer>> lists = new ArrayList<>();
        final Set<Integer> deleted = new TreeSet<>();
        int[] weights = new int[6];
        int[] bribes = new int[6];
        int k = 3;
        boolean on;
        int way;
        boolean looksUp;
        int steps;
        int begun;
        int caughtInAll;

        State() {
            for (int list = 0; list < 6; list++) {
                lists.add(new TreeMap<>());
            }
        }

        State copy() {
            State other = new State();
            for (int list = 0; list < 6; list++) {
                other.lists.get(list).putAll(lists.get(list));
            }
            other.deleted.addAll(deleted);
            other.weights = weights.clone();
            other.bribes = bribes.clone();
            other.k = k;
            other.on = on;
            other.way = way;
            other.looksUp = looksUp;
            other.steps = steps;
            other.begun = begun;
            other.caughtInAll = caughtInAll;
            return other;
        }

        List<Entry> entries(int list) {
            List<Entry> entries = new ArrayList<>();
            lists.get(list).forEach((document, score) -> entries.add(new Entry(document, score)));
            entries.sort(Comparator.comparing((Entry e) -> -e.score()).thenComparing(Entry::document));
            return entries;
        }

        List<Integer> question() {
            List<Integer> question = new ArrayList<>();
            for (int list = 0; list < 6; list++) {
                if (weights[list] > 0) {
                    question.add(list);
                }
            }
            return question;
        }

        int value(int document) {
            int value = 0;
            for (int list = 0; list < 6; list++) {
                value += weights[list] * lists.get(list).getOrDefault(document, 0);
            }
            return value;
        }

        List<Integer> wanted() {
            List<Integer> wanted = new ArrayList<>();
            for (int document = 0; document < 60; document++) {
                if (!deleted.contains(document) && value(document) > 0) {
                    wanted.add(document);
                }
            }
            wanted.sort(Comparator.comparing((Integer d) -> -value(d)).thenComparing(d -> d));
            return wanted.subList(0, Math.min(k, wanted.size()));
        }
    }

    /** A reading, done from its beginning. */
    private static final class Replay {
        final State state;
        final List<Integer> question;
        final List<List<Entry>> entries = new ArrayList<>();
        final int[] read = new int[6];
        final int[] lookUps = new int[6];
        final Set<Integer> caught = new TreeSet<>();
        final Map<Integer, Integer> firstSteps = new TreeMap<>();
        final List<Set<Integer>> known = new ArrayList<>();
        int last = -1;
        int steps;
        int wasted;

        Replay(State state, int way, boolean looksUp, int most) {
            this.state = state;
            question = state.question();
            for (int list = 0; list < 6; list++) {
                entries.add(state.entries(list));
            }
            for (int document = 0; document < 60; document++) {
                known.add(new TreeSet<>());
            }
            while (steps < most && !over()) {
                readOne(next(way), looksUp);
            }
        }

        int bound(int list) {
            List<Entry> all = entries.get(list);
            return read[list] < all.size() ? all.get(read[list]).score() : 0;
        }

        int told(int list) {
            return caught.contains(list) ? bound(list) : Math.max(0, bound(list) - state.bribes[list]);
        }

        int left(int list) {
            return entries.get(list).size() - read[list];
        }

        int next(int way) {
            List<Integer> open = new ArrayList<>(question);
            open.removeIf(list -> left(list) == 0);
            if (open.isEmpty()) {
                return NONE;
            }
            if (way == 0) {
                return open.stream().filter(list -> list > last).findFirst().orElse(open.get(0));
            }
            if (way == 1) {
                open.sort(Comparator.comparing(list -> -state.weights[list] * told(list)));
            } else {
                open.sort(Comparator.comparing(this::left));
            }
            return open.get(0);
        }

        void readOne(int list, boolean looksUp) {
            Entry entry = entries.get(list).get(read[list]);
            if (entry.score() > told(list)) {
                caught.add(list);
            }
            read[list]++;
            last = list;
            int document = entry.document();
            if (state.deleted.contains(document)) {
                wasted++;
            } else {
                boolean before = firstSteps.containsKey(document);
                firstSteps.putIfAbsent(document, steps);
                known.get(document).add(list);
                for (int other : question) {
                    if (looksUp && !before && other != list) {
                        lookUps[other]++;
                        known.get(document).add(other);
                    }
                }
            }
            steps++;
        }

        Set<Integer> knownLists(int document) {
            Set<Integer> lists = new TreeSet<>(known.get(document));
            for (int list : question) {
                if (left(list) == 0) {
                    lists.add(list);
                }
            }
            return lists;
        }

        int low(int document) {
            int low = 0;
            for (int list : knownLists(document)) {
                low += state.weights[list] * state.lists.get(list).getOrDefault(document, 0);
            }
            return low;
        }

        int high(int document) {
            int high = low(document);
            Set<Integer> lists = knownLists(document);
            for (int list : question) {
                if (!lists.contains(list)) {
                    high += state.weights[list] * told(list);
                }
            }
            return high;
        }

        List<Integer> front() {
            int[] lows = new int[60];
            List<Integer> front = new ArrayList<>(firstSteps.keySet());
            front.forEach(document -> lows[document] = low(document));
            front.sort(Comparator.comparing((Integer d) -> -lows[d]).thenComparing(d -> d));
            return front;
        }

        List<Integer> told() {
            List<Integer> front = front();
            return front.subList(0, Math.min(state.k, front.size()));
        }

        int sum() {
            return question.stream().mapToInt(list -> state.weights[list] * told(list)).sum();
        }

        boolean over() {
            if (question.stream().allMatch(list -> left(list) == 0)) {
                return true;
            }
            List<Integer> front = front();
            if (front.size() < state.k) {
                return false;
            }
            int lastTold = front.get(state.k - 1);
            int low = low(lastTold);
            if (sum() >= low) {
                return false;
            }
            for (int other : front.subList(state.k, front.size())) {
                int high = high(other);
                boolean safe = high < low || high == low && other > lastTold;
                if (!safe) {
                    return false;
                }
            }
            return true;
        }

        int cost() {
            return steps + 3 * Arrays.stream(lookUps).sum();
        }

        int notWanted() {
            List<Integer> notWanted = new ArrayList<>(told());
            notWanted.removeAll(state.wanted());
            return notWanted.size();
        }
    }

    private State state = new State();
    private State snapshot;
    private final Deque<State> history = new ArrayDeque<>();
    private final StringBuilder text = new StringBuilder();
    // Found again whenever the state changes.
    private Replay replay;

    private void record() {
        replay = null;
        history.addLast(state.copy());
        if (history.size() > 4) {
            history.removeFirst();
        }
    }

    private Replay replay() {
        if (replay == null) {
            replay = new Replay(state, state.way, state.looksUp, state.steps);
        }
        return replay;
    }

    private static boolean noList(int list) {
        return list < 0 || list > 5;
    }

    private static boolean noDocument(int document) {
        return document < 0 || document > 59;
    }

    private static int bits(Iterable<Integer> numbers) {
        int bits = 0;
        for (int number : numbers) {
            bits += 1 << number;
        }
        return bits;
    }

    private List<Integer> listsWith(int document) {
        List<Integer> with = new ArrayList<>();
        for (int list = 0; list < 6; list++) {
            if (state.lists.get(list).containsKey(document)) {
                with.add(list);
            }
        }
        return with;
    }

    private int entriesInAll() {
        return state.lists.stream().mapToInt(Map::size).sum();
    }

    int add(int list, int document, int score) {
        if (noList(list) || noDocument(document)) {
            return UNKNOWN;
        }
        if (score < 1 || score > 999) {
            return BAD_VALUE;
        }
        if (state.on) {
            return NOT_POSSIBLE;
        }
        Integer before = state.lists.get(list).get(document);
        if (before == null && state.lists.get(list).size() == 40) {
            return FULL;
        }
        if (before != null && before == score) {
            return NONE;
        }
        record();
        state.lists.get(list).put(document, score);
        return state.entries(list).indexOf(new Entry(document, score));
    }

    int drop(int list, int document) {
        if (noList(list) || noDocument(document)
                || !state.lists.get(list).containsKey(document)) {
            return UNKNOWN;
        }
        if (state.on) {
            return NOT_POSSIBLE;
        }
        record();
        state.lists.get(list).remove(document);
        return state.lists.get(list).size();
    }

    int delete(int document) {
        if (noDocument(document)) {
            return UNKNOWN;
        }
        if (state.on) {
            return NOT_POSSIBLE;
        }
        if (state.deleted.contains(document)) {
            return NONE;
        }
        record();
        state.deleted.add(document);
        return listsWith(document).size();
    }

    int bring(int document) {
        if (noDocument(document)) {
            return UNKNOWN;
        }
        if (state.on) {
            return NOT_POSSIBLE;
        }
        if (!state.deleted.contains(document)) {
            return NONE;
        }
        record();
        state.deleted.remove(document);
        return listsWith(document).size();
    }

    int weight(int list, int weight) {
        if (noList(list)) {
            return UNKNOWN;
        }
        if (weight < 0 || weight > 9) {
            return BAD_VALUE;
        }
        if (state.on) {
            return NOT_POSSIBLE;
        }
        int before = state.weights[list];
        if (before == weight) {
            return NONE;
        }
        record();
        state.weights[list] = weight;
        return before;
    }

    int want(int k) {
        if (k < 1 || k > 10) {
            return BAD_VALUE;
        }
        if (state.on) {
            return NOT_POSSIBLE;
        }
        int before = state.k;
        if (before == k) {
            return NONE;
        }
        record();
        state.k = k;
        return before;
    }

    int bribe(int list, int bribe) {
        if (noList(list)) {
            return UNKNOWN;
        }
        if (bribe < 0 || bribe > 500) {
            return BAD_VALUE;
        }
        if (state.on) {
            return NOT_POSSIBLE;
        }
        int before = state.bribes[list];
        if (before == bribe) {
            return NONE;
        }
        record();
        state.bribes[list] = bribe;
        return before;
    }

    int begin(int way, boolean looksUp) {
        if (way < 0 || way > 2) {
            return BAD_VALUE;
        }
        if (state.on || state.question().isEmpty()) {
            return NOT_POSSIBLE;
        }
        record();
        state.on = true;
        state.way = way;
        state.looksUp = looksUp;
        state.steps = 0;
        state.begun++;
        return replay().over() ? 1 : 0;
    }

    int step(int steps) {
        if (steps < 1 || steps > 240) {
            return BAD_VALUE;
        }
        if (!state.on) {
            return NOT_POSSIBLE;
        }
        if (replay().over()) {
            return NONE;
        }
        int before = replay().steps;
        int caughtBefore = replay().caught.size();
        record();
        state.steps = new Replay(state, state.way, state.looksUp, before + steps).steps;
        state.caughtInAll += replay().caught.size() - caughtBefore;
        return state.steps - before;
    }

    int end() {
        if (!state.on) {
            return NOT_POSSIBLE;
        }
        int told = replay().told().size();
        record();
        state.on = false;
        return told;
    }

    int type(char character) {
        if (text.length() == 40) {
            return FULL;
        }
        text.append(character);
        return text.length();
    }

    int clearText() {
        int length = text.length();
        text.setLength(0);
        return length;
    }

    private static final String NUMBER = " (0|[1-9][0-9]{0,2})";

    /** The fault is the longest beginning of the text that a right command can begin with. */
    private static int fault(String text, int numbers) {
        int end = 0;
        while (end < text.length() && text.charAt(end) >= 'a' && text.charAt(end) <= 'z') {
            end++;
        }
        String rest = text.substring(end);
        if (Pattern.matches(NUMBER.repeat(numbers), rest)) {
            return -1;
        }
        for (int length = rest.length(); length > 0; length--) {
            String beginning = rest.substring(0, length);
            for (String more : new String[] {"", "1", " 1", "1 1", " 1 1", "1 1 1", " 1 1 1"}) {
                if (Pattern.matches(NUMBER.repeat(numbers), beginning + more)) {
                    return end + length;
                }
            }
        }
        return end;
    }

    int perform() {
        String all = text.toString();
        List<String> words = List.of("add", "drop", "weight", "bribe", "delete", "bring", "want");
        int[] numbers = {3, 2, 2, 2, 1, 1, 1};
        int end = 0;
        while (end < all.length() && all.charAt(end) >= 'a' && all.charAt(end) <= 'z') {
            end++;
        }
        int command = words.indexOf(all.substring(0, end));
        if (command < 0) {
            return -100;
        }
        int fault = fault(all, numbers[command]);
        if (fault >= 0) {
            return -100 - fault;
        }
        String[] parts = all.split(" ");
        int[] given = new int[4];
        for (int i = 1; i < parts.length; i++) {
            given[i] = Integer.parseInt(parts[i]);
        }
        return switch (command) {
            case 0 -> add(given[1], given[2], given[3]);
            case 1 -> drop(given[1], given[2]);
            case 2 -> weight(given[1], given[2]);
            case 3 -> bribe(given[1], given[2]);
            case 4 -> delete(given[1]);
            case 5 -> bring(given[1]);
            default -> want(given[1]);
        };
    }

    int undo() {
        if (history.isEmpty()) {
            return NONE;
        }
        state = history.removeLast();
        replay = null;
        return history.size();
    }

    int keep() {
        snapshot = state.copy();
        return entriesInAll();
    }

    int restore() {
        if (snapshot == null) {
            return NONE;
        }
        record();
        state = snapshot.copy();
        return entriesInAll();
    }

    int list(int list, int what) {
        if (noList(list)) {
            return UNKNOWN;
        }
        List<Entry> entries = state.entries(list);
        return switch (what) {
            case 0 -> entries.size();
            case 1 -> state.weights[list];
            case 2 -> state.bribes[list];
            case 3 -> entries.stream().mapToInt(Entry::score).max().orElse(0);
            case 4 -> (int) entries.stream().filter(e -> state.deleted.contains(e.document())).count();
            default -> BAD_VALUE;
        };
    }

    int entry(int list, int place, int what) {
        if (noList(list)) {
            return UNKNOWN;
        }
        if (place < 0 || what < 0 || what > 1) {
            return BAD_VALUE;
        }
        List<Entry> entries = state.entries(list);
        if (place >= entries.size()) {
            return NONE;
        }
        return what == 0 ? entries.get(place).document() : entries.get(place).score();
    }

    int document(int document, int what) {
        if (noDocument(document)) {
            return UNKNOWN;
        }
        int place = state.wanted().indexOf(document);
        return switch (what) {
            case 0 -> state.deleted.contains(document) ? 1 : 0;
            case 1 -> state.value(document);
            case 2 -> bits(listsWith(document));
            case 3 -> place < 0 ? NONE : place;
            default -> BAD_VALUE;
        };
    }

    int wanted(int place) {
        if (place < 0) {
            return BAD_VALUE;
        }
        List<Integer> wanted = state.wanted();
        return place < wanted.size() ? wanted.get(place) : NONE;
    }

    int clerk(int list, int what) {
        if (noList(list)) {
            return UNKNOWN;
        }
        if (what < 0 || what > 4) {
            return BAD_VALUE;
        }
        if (!state.on) {
            return NOT_POSSIBLE;
        }
        if (state.weights[list] == 0) {
            return NONE;
        }
        return switch (what) {
            case 0 -> replay().read[list];
            case 1 -> replay().told(list);
            case 2 -> replay().bound(list);
            case 3 -> replay().caught.contains(list) ? 1 : 0;
            default -> replay().lookUps[list];
        };
    }

    int seen(int document, int what) {
        if (noDocument(document)) {
            return UNKNOWN;
        }
        if (what < 0 || what > 4) {
            return BAD_VALUE;
        }
        if (!state.on) {
            return NOT_POSSIBLE;
        }
        if (!replay().firstSteps.containsKey(document)) {
            return NONE;
        }
        return switch (what) {
            case 0 -> replay().low(document);
            case 1 -> replay().high(document);
            case 2 -> bits(replay().knownLists(document));
            case 3 -> replay().front().indexOf(document);
            default -> replay().firstSteps.get(document);
        };
    }

    int told(int place) {
        if (place < 0) {
            return BAD_VALUE;
        }
        if (!state.on) {
            return NOT_POSSIBLE;
        }
        List<Integer> told = replay().told();
        return place < told.size() ? told.get(place) : NONE;
    }

    int reading(int what) {
        if (what < 0 || what > 12) {
            return BAD_VALUE;
        }
        if (!state.on) {
            return NOT_POSSIBLE;
        }
        Replay now = replay();
        List<Integer> told = now.told();
        return switch (what) {
            case 0 -> now.steps;
            case 1 -> now.wasted;
            case 2 -> Arrays.stream(now.lookUps).sum();
            case 3 -> now.cost();
            case 4 -> now.firstSteps.size();
            case 5 -> told.size();
            case 6 -> now.over() ? 1 : 0;
            case 7 -> now.over() ? NONE : now.next(state.way);
            case 8 -> now.sum();
            case 9 -> told.isEmpty() ? 0 : now.low(told.get(told.size() - 1));
            case 10 -> now.caught.size();
            case 11 -> now.notWanted();
            default -> (int) now.question.stream().filter(l -> now.told(l) < now.bound(l)).count();
        };
    }

    int trial(int way, boolean looksUp, int what) {
        if (way < 0 || way > 2 || what < 0 || what > 3) {
            return BAD_VALUE;
        }
        if (state.question().isEmpty()) {
            return NOT_POSSIBLE;
        }
        Replay whole = new Replay(state, way, looksUp, 240);
        return switch (what) {
            case 0 -> whole.steps;
            case 1 -> whole.cost();
            case 2 -> whole.notWanted();
            default -> whole.caught.size();
        };
    }

    int cheapest() {
        if (state.question().isEmpty()) {
            return NOT_POSSIBLE;
        }
        int[] costs = new int[6];
        for (int number = 0; number < 6; number++) {
            costs[number] = trial(number / 2, number % 2 == 1, 1);
        }
        int least = Arrays.stream(costs).min().getAsInt();
        for (int number = 0; true; number++) {
            if (costs[number] == least) {
                return number;
            }
        }
    }

    int count(int what) {
        return switch (what) {
            case 0 -> entriesInAll();
            case 1 -> state.question().size();
            case 2 -> state.k;
            case 3 -> state.deleted.size();
            case 4 -> state.wanted().size();
            case 5 -> state.on ? 1 : 0;
            case 6 -> state.begun;
            case 7 -> state.caughtInAll;
            case 8 -> history.size();
            case 9 -> text.length();
            default -> BAD_VALUE;
        };
    }
}
