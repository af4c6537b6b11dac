import java.util.ArrayList;
import java.util.Arrays;
import java.util.HashMap;
import java.util.HashSet;
import java.util.List;
import java.util.Map;
import java.util.Set;
import java.util.TreeSet;

/**
 * The document once more, as slowly and plainly as can be, with the Java
 * library: what TurnSchool answers in random runs is compared with it.
 */
final class NaiveSchool {

    /** All that a state is, in the open. */
    private static final class State {
        int[] at = new int[3];
        int[] made = new int[3];
        int[] register = new int[3];
        int[] sleep = new int[3];
        int[] place = new int[4];
        int[] owner = {-2, -2, -2};
        int last = -1;

        State twin() {
            State twin = new State();
            twin.at = at.clone();
            twin.made = made.clone();
            twin.register = register.clone();
            twin.sleep = sleep.clone();
            twin.place = place.clone();
            twin.owner = owner.clone();
            twin.last = last;
            return twin;
        }

        String key() {
            return Arrays.toString(at) + Arrays.toString(made) + Arrays.toString(register)
                + Arrays.toString(sleep) + Arrays.toString(place) + Arrays.toString(owner) + last;
        }
    }

    /** All orders of one puzzle by one picture; null states where spent. */
    private static final class Graph {
        final List<State> states = new ArrayList<>();
        final List<Map<Integer, Integer>> edges = new ArrayList<>();
        boolean spent = false;
    }

    private static final int ENDED = 10;
    private static final int FAILED = 11;

    private List<List<int[]>> code = new ArrayList<>();
    private int[] first = new int[4];
    private State run;
    private final Map<Integer, Boolean> answers = new HashMap<>();
    private final Object[] shelves = new Object[8];
    private int[] fixed = null;
    private final Map<Integer, Graph> graphs = new HashMap<>();

    NaiveSchool() {
        code.add(new ArrayList<>());
        changed();
    }

    private void changed() {
        run = firstOf(code, first);
        answers.clear();
        graphs.clear();
    }

    private static State firstOf(List<List<int[]>> code, int[] first) {
        State state = new State();
        state.place = first.clone();
        for (int hand = 0; hand < code.size(); hand++) {
            if (code.get(hand).isEmpty()) {
                state.at[hand] = ENDED;
            }
        }
        return state;
    }

    private static boolean in(int number, int low, int high) {
        return number >= low && number <= high;
    }

    private boolean isHand(int hand) {
        return in(hand, 0, code.size() - 1);
    }

    private boolean isStatement(int hand, int i) {
        return isHand(hand) && in(i, 0, code.get(hand).size() - 1);
    }

    private static boolean hasPlace(int kind) {
        return kind == 0 || kind == 1 || kind == 2 || kind == 5 || kind == 6 || kind == 7;
    }

    private static boolean hasLock(int kind) {
        return in(kind, 8, 11);
    }

    private static boolean hasNumber(int kind) {
        return kind == 0 || kind == 3 || kind == 4 || kind == 5 || kind == 6;
    }

    int puzzle(int hands) {
        if (!in(hands, 1, 3)) {
            return -1;
        }
        int before = 0;
        for (List<int[]> row : code) {
            before += row.size();
        }
        code = new ArrayList<>();
        for (int hand = 0; hand < hands; hand++) {
            code.add(new ArrayList<>());
        }
        first = new int[4];
        changed();
        return before;
    }

    int code(int hand, int kind, int a, int n) {
        if (!isHand(hand) || !in(kind, 0, 12)
            || hasPlace(kind) && !in(a, 0, 3) || hasLock(kind) && !in(a, 0, 2)
            || hasNumber(kind) && !in(n, 0, kind == 4 ? 8 : 9)) {
            return -1;
        }
        if (code.get(hand).size() == 8) {
            return -2;
        }
        code.get(hand).add(new int[] {kind, a, n});
        changed();
        return code.get(hand).size() - 1;
    }

    int uncode(int hand) {
        if (!isHand(hand)) {
            return -1;
        }
        if (code.get(hand).isEmpty()) {
            return -3;
        }
        code.get(hand).remove(code.get(hand).size() - 1);
        changed();
        return code.get(hand).size();
    }

    int value(int place, int v) {
        if (!in(place, 0, 3) || !in(v, 0, 9)) {
            return -1;
        }
        int before = first[place];
        first[place] = v;
        if (before != v) {
            changed();
        }
        return before;
    }

    int told(int hand, int i, int what) {
        if (!isStatement(hand, i) || !in(what, 0, 2)) {
            return -1;
        }
        int[] statement = code.get(hand).get(i);
        int kind = statement[0];
        boolean has = what == 0 || what == 1 && (hasPlace(kind) || hasLock(kind)) || what == 2 && hasNumber(kind);
        return has ? statement[what] : -2;
    }

    int start() {
        return moveRun(firstOf(code, first));
    }

    private int moveRun(State to) {
        boolean same = run.key().equals(to.key());
        run = to;
        return same ? 0 : 1;
    }

    int go(int hand) {
        if (!isHand(hand)) {
            return -1;
        }
        if (!can(code, run, hand, 0)) {
            return 0;
        }
        run = after(code, run, hand, 0);
        return 1;
    }

    int see(int what, int i) {
        if (!in(what, 0, 6) || what <= 4 && !isHand(i) || what == 5 && !in(i, 0, 3) || what == 6 && !in(i, 0, 2)) {
            return -1;
        }
        return switch (what) {
            case 0 -> run.at[i];
            case 1 -> run.register[i];
            case 2 -> run.made[i];
            case 3 -> can(code, run, i, 0) ? 1 : 0;
            case 4 -> run.sleep[i];
            case 5 -> run.place[i];
            default -> run.owner[i];
        };
    }

    private static int[] statementOf(List<List<int[]>> code, State s, int hand) {
        return s.at[hand] >= ENDED ? null : code.get(hand).get(s.at[hand]);
    }

    private static boolean can(List<List<int[]>> code, State s, int hand, int picture) {
        int[] statement = statementOf(code, s, hand);
        if (statement == null) {
            return false;
        }
        int a = statement[1];
        switch (statement[0]) {
            case 5:
                return s.place[a] == statement[2];
            case 8:
                return picture == 4 || s.owner[a] == -2;
            case 10:
                return s.made[hand] == 0 || s.sleep[hand] == 2 && (picture == 4 || s.owner[a] == -2);
            case 12:
                for (int other = 0; other < code.size(); other++) {
                    int[] theirs = statementOf(code, s, other);
                    if (theirs != null && theirs[0] != 12) {
                        return false;
                    }
                }
                return true;
            default:
                return true;
        }
    }

    private static void moveTo(List<List<int[]>> code, State s, int hand, int i) {
        s.at[hand] = i >= code.get(hand).size() ? ENDED : i;
        s.made[hand] = 0;
        s.sleep[hand] = 0;
    }

    private static void fail(State s, int hand) {
        s.at[hand] = FAILED;
        s.made[hand] = 0;
        s.sleep[hand] = 0;
    }

    private static State after(List<List<int[]>> code, State from, int hand, int picture) {
        State s = from.twin();
        int[] statement = statementOf(code, from, hand);
        int a = statement[1];
        int n = statement[2];
        int behind = s.at[hand] + 1;
        switch (statement[0]) {
            case 0 -> s.place[a] = n;
            case 1 -> s.register[hand] = s.place[a];
            case 2 -> s.place[a] = s.register[hand];
            case 3 -> s.register[hand] = (s.register[hand] + n) % 10;
            case 4 -> behind = s.register[hand] == 0 ? n : behind;
            case 6 -> {
                if (picture == 3 || s.made[hand] == 0) {
                    s.register[hand] = s.place[a];
                }
                if (picture == 3 || s.made[hand] == 1) {
                    s.register[hand] = (s.register[hand] + n) % 10;
                }
                if (picture == 3 || s.made[hand] == 2) {
                    s.place[a] = s.register[hand];
                } else {
                    s.made[hand]++;
                    behind = -1;
                }
            }
            case 7 -> {
                s.register[hand] = s.place[a];
                s.place[a] = 1;
            }
            case 8 -> s.owner[a] = hand;
            case 9 -> {
                if (s.owner[a] == hand) {
                    s.owner[a] = -2;
                } else {
                    fail(s, hand);
                    behind = -1;
                }
            }
            case 10 -> {
                if (s.made[hand] == 1) {
                    s.owner[a] = hand;
                } else {
                    behind = -1;
                    if (s.owner[a] == hand) {
                        s.owner[a] = -2;
                        s.made[hand] = 1;
                        s.sleep[hand] = 1;
                    } else {
                        fail(s, hand);
                    }
                }
            }
            case 11 -> {
                for (int other = code.size() - 1, least = -1; other >= -1; other--) {
                    if (other == -1) {
                        if (least >= 0) {
                            s.sleep[least] = 2;
                        }
                    } else if (s.sleep[other] == 1 && statementOf(code, s, other)[1] == a) {
                        least = other;
                    }
                }
            }
            case 12 -> {
                behind = -1;
                for (int other = 0; other < code.size(); other++) {
                    if (statementOf(code, from, other) != null) {
                        moveTo(code, s, other, from.at[other] + 1);
                    }
                }
            }
            default -> {
            }
        }
        if (behind >= 0) {
            moveTo(code, s, hand, behind);
        }
        s.last = picture == 1 || picture == 2 ? hand : -1;
        return s;
    }

    private static Set<Integer> movers(List<List<int[]>> code, State s, int picture) {
        Set<Integer> all = new TreeSet<>();
        for (int hand = 0; hand < code.size(); hand++) {
            if (can(code, s, hand, picture)) {
                all.add(hand);
            }
        }
        if (picture == 1 && all.contains(s.last)) {
            return new TreeSet<>(List.of(s.last));
        }
        if (picture == 2) {
            for (int k = 1; k <= code.size(); k++) {
                int hand = (s.last + k) % code.size();
                if (all.contains(hand)) {
                    return new TreeSet<>(List.of(hand));
                }
            }
        }
        return all;
    }

    private static Graph explored(List<List<int[]>> code, int[] first, int picture) {
        Graph graph = new Graph();
        Map<String, Integer> numbers = new HashMap<>();
        graph.states.add(firstOf(code, first));
        numbers.put(graph.states.get(0).key(), 0);
        for (int s = 0; s < graph.states.size(); s++) {
            Map<Integer, Integer> edges = new HashMap<>();
            graph.edges.add(edges);
            for (int hand : movers(code, graph.states.get(s), picture)) {
                State next = after(code, graph.states.get(s), hand, picture);
                Integer number = numbers.get(next.key());
                if (number == null) {
                    if (graph.states.size() == 2000) {
                        graph.spent = true;
                        return graph;
                    }
                    number = graph.states.size();
                    numbers.put(next.key(), number);
                    graph.states.add(next);
                }
                edges.put(hand, number);
            }
        }
        return graph;
    }

    private Graph graph(int picture) {
        return graphs.computeIfAbsent(picture, p -> explored(code, first, p));
    }

    private static boolean isEnd(List<List<int[]>> code, State s) {
        for (int hand = 0; hand < code.size(); hand++) {
            if (s.at[hand] < ENDED) {
                return false;
            }
        }
        return true;
    }

    int states(int picture) {
        if (!in(picture, 0, 4)) {
            return -1;
        }
        return graph(picture).spent ? -5 : graph(picture).states.size();
    }

    private List<Integer> ofSort(int what) {
        Graph graph = graph(0);
        List<Integer> list = new ArrayList<>();
        for (int s = 0; s < graph.states.size(); s++) {
            boolean end = isEnd(code, graph.states.get(s));
            boolean still = graph.edges.get(s).isEmpty();
            if (what == 0 && end || what == 1 && still && !end || what == 2 && comesBack(graph, s)) {
                list.add(s);
            }
        }
        return list;
    }

    private static boolean comesBack(Graph graph, int from) {
        Set<Integer> seen = new HashSet<>(graph.edges.get(from).values());
        List<Integer> todo = new ArrayList<>(seen);
        while (!todo.isEmpty()) {
            int s = todo.remove(todo.size() - 1);
            if (s == from) {
                return true;
            }
            for (int to : graph.edges.get(s).values()) {
                if (seen.add(to)) {
                    todo.add(to);
                }
            }
        }
        return false;
    }

    int count(int what) {
        if (!in(what, 0, 2)) {
            return -1;
        }
        return graph(0).spent ? -5 : ofSort(what).size();
    }

    int nth(int what, int i) {
        if (!in(what, 0, 2) || i < 0) {
            return -1;
        }
        if (graph(0).spent) {
            return -5;
        }
        List<Integer> list = ofSort(what);
        return i < list.size() ? list.get(i) : -3;
    }

    /** The least of the shortest ways, by the distance to the state from everywhere. */
    private List<Integer> wayTo(int state) {
        Graph graph = graph(0);
        int[] distance = new int[graph.states.size()];
        Arrays.fill(distance, Integer.MAX_VALUE);
        distance[state] = 0;
        for (boolean again = true; again;) {
            again = false;
            for (int s = 0; s < distance.length; s++) {
                for (int to : graph.edges.get(s).values()) {
                    if (distance[to] != Integer.MAX_VALUE && distance[to] + 1 < distance[s]) {
                        distance[s] = distance[to] + 1;
                        again = true;
                    }
                }
            }
        }
        List<Integer> way = new ArrayList<>();
        for (int s = 0; s != state;) {
            for (int hand = 0; hand < 3; hand++) {
                Integer to = graph.edges.get(s).get(hand);
                if (to != null && distance[to] == distance[s] - 1) {
                    way.add(hand);
                    s = to;
                    break;
                }
            }
        }
        return way;
    }

    private int refusal(int state) {
        if (state < 0) {
            return -1;
        }
        return graph(0).spent ? -5 : state >= graph(0).states.size() ? -1 : 0;
    }

    int way(int state) {
        return refusal(state) != 0 ? refusal(state) : wayTo(state).size();
    }

    int step(int state, int k) {
        if (k < 0) {
            return -1;
        }
        if (refusal(state) != 0) {
            return refusal(state);
        }
        List<Integer> way = wayTo(state);
        return k < way.size() ? way.get(k) : -3;
    }

    int lead(int state) {
        return refusal(state) != 0 ? refusal(state) : moveRun(graph(0).states.get(state));
    }

    private static int access(List<List<int[]>> code, State s, int hand, boolean writing) {
        int[] statement = statementOf(code, s, hand);
        if (statement == null) {
            return -1;
        }
        int made = s.made[hand];
        boolean does = switch (statement[0]) {
            case 0, 2 -> writing;
            case 1, 5 -> !writing;
            case 6 -> writing ? made == 2 : made == 0;
            case 7 -> true;
            default -> false;
        };
        return does ? statement[1] : -1;
    }

    int race(int hand, int other) {
        if (!isHand(hand) || !isHand(other) || hand == other) {
            return -1;
        }
        if (graph(0).spent) {
            return -5;
        }
        for (int i = 0; i < graph(0).states.size(); i++) {
            State s = graph(0).states.get(i);
            int write = access(code, s, hand, true);
            int read = access(code, s, hand, false);
            int otherWrite = access(code, s, other, true);
            int otherRead = access(code, s, other, false);
            boolean clash = write >= 0 && (write == otherWrite || write == otherRead)
                || otherWrite >= 0 && otherWrite == read;
            if (clash && can(code, s, hand, 0) && can(code, s, other, 0)) {
                return i;
            }
        }
        return -2;
    }

    int always(int hand, int i, int p, int n) {
        if (!isStatement(hand, i) || !in(p, 0, 3) || !in(n, 0, 9)) {
            return -1;
        }
        if (graph(0).spent) {
            return -5;
        }
        for (int s = 0; s < graph(0).states.size(); s++) {
            State state = graph(0).states.get(s);
            if (state.at[hand] == i && state.made[hand] == 0 && state.place[p] != n) {
                return s;
            }
        }
        return -2;
    }

    private boolean hasEnd(int picture, int p, int n) {
        for (State state : graph(picture).states) {
            if (isEnd(code, state) && state.place[p] == n) {
                return true;
            }
        }
        return false;
    }

    int can(int picture, int p, int n) {
        if (!in(picture, 0, 4) || !in(p, 0, 3) || !in(n, 0, 9)) {
            return -1;
        }
        return graph(picture).spent ? -5 : hasEnd(picture, p, n) ? 1 : 0;
    }

    /** {-2, -2} for none, then all (i, j). */
    private static List<int[]> ranges(int length) {
        List<int[]> ranges = new ArrayList<>();
        ranges.add(new int[] {-2, -2});
        for (int i = 0; i < length; i++) {
            for (int j = i; j < length; j++) {
                ranges.add(new int[] {i, j});
            }
        }
        return ranges;
    }

    /** Puts the lock in by way of labels, so that jumps find their statement again. */
    private static List<int[]> locked(List<int[]> row, int[] range, int lock) {
        List<int[]> out = new ArrayList<>();
        Map<Integer, Integer> label = new HashMap<>();
        for (int i = 0; i < row.size(); i++) {
            label.put(i, out.size());
            if (i == range[0]) {
                out.add(new int[] {8, lock, 0});
            }
            out.add(row.get(i).clone());
            if (i == range[1]) {
                out.add(new int[] {9, lock, 0});
            }
        }
        for (int[] statement : out) {
            if (statement[0] == 4) {
                statement[2] = label.getOrDefault(statement[2], out.size());
            }
        }
        return out;
    }

    private boolean good(int lock, int[] one, int[] two, int p, int n) {
        List<List<int[]>> draft = List.of(locked(code.get(0), one, lock), locked(code.get(1), two, lock));
        Graph graph = explored(draft, first, 0);
        if (graph.spent) {
            return false;
        }
        for (int s = 0; s < graph.states.size(); s++) {
            State state = graph.states.get(s);
            boolean end = isEnd(draft, state);
            if (graph.edges.get(s).isEmpty() && !end || end && state.place[p] != n
                || state.at[0] == FAILED || state.at[1] == FAILED) {
                return false;
            }
        }
        return true;
    }

    int fix(int lock, int p, int n) {
        if (!in(lock, 0, 2) || !in(p, 0, 3) || !in(n, 0, 9)) {
            return -1;
        }
        if (code.size() != 2 || code.get(0).size() > 4 || code.get(1).size() > 4) {
            return -3;
        }
        int[] best = null;
        for (int[] one : ranges(code.get(0).size())) {
            for (int[] two : ranges(code.get(1).size())) {
                int inside = (one[0] < 0 ? 0 : one[1] - one[0] + 1) + (two[0] < 0 ? 0 : two[1] - two[0] + 1);
                int[] found = {inside, one[0], one[1], two[0], two[1]};
                if ((best == null || Arrays.compare(found, best) < 0) && good(lock, one, two, p, n)) {
                    best = found;
                }
            }
        }
        if (best == null) {
            return -2;
        }
        fixed = best;
        return best[0];
    }

    int fixed(int hand, int what) {
        if (!in(hand, 0, 1) || !in(what, 0, 1)) {
            return -1;
        }
        return fixed == null ? -3 : fixed[1 + 2 * hand + what];
    }

    int answer(int p, int n, boolean yes) {
        if (!in(p, 0, 3) || !in(n, 0, 9)) {
            return -1;
        }
        answers.put(10 * p + n, yes);
        return answers.size();
    }

    private boolean someSpent() {
        for (int picture = 0; picture < 5; picture++) {
            if (graph(picture).spent) {
                return true;
            }
        }
        return false;
    }

    private int costOf(int picture) {
        int cost = 0;
        for (Map.Entry<Integer, Boolean> answer : answers.entrySet()) {
            if (hasEnd(picture, answer.getKey() / 10, answer.getKey() % 10) != answer.getValue()) {
                cost++;
            }
        }
        return cost;
    }

    int cost(int picture) {
        if (!in(picture, 0, 4)) {
            return -1;
        }
        return someSpent() ? -5 : costOf(picture);
    }

    private List<Integer> cheapest() {
        int least = Integer.MAX_VALUE;
        for (int picture = 0; picture < 5; picture++) {
            least = Math.min(least, costOf(picture));
        }
        List<Integer> list = new ArrayList<>();
        for (int picture = 0; picture < 5; picture++) {
            if (costOf(picture) == least) {
                list.add(picture);
            }
        }
        return list;
    }

    int explain() {
        if (someSpent()) {
            return -5;
        }
        int bits = 0;
        for (int picture : cheapest()) {
            bits += 1 << picture;
        }
        return bits;
    }

    int next() {
        if (answers.size() == 40) {
            return -2;
        }
        if (someSpent()) {
            return -5;
        }
        int best = -2;
        int least = Integer.MAX_VALUE;
        for (int question = 0; question < 40; question++) {
            int yes = 0;
            int no = 0;
            for (int picture : cheapest()) {
                if (hasEnd(picture, question / 10, question % 10)) {
                    yes++;
                } else {
                    no++;
                }
            }
            if (!answers.containsKey(question) && Math.max(yes, no) < least) {
                least = Math.max(yes, no);
                best = question;
            }
        }
        return best;
    }

    int keep(int d, int what, int k, int n) {
        if (!in(d, 0, 7) || !in(what, 0, 4) || what == 2
            || what == 1 && !isStatement(k, n) || what == 4 && !isHand(k)) {
            return -1;
        }
        if (what == 0) {
            shelves[d] = null;
        } else if (what == 1) {
            shelves[d] = code.get(k).get(n).clone();
        } else if (what == 3) {
            long[] row = new long[4 + code.size()];
            for (int i = 0; i < row.length; i++) {
                row[i] = i < 4 ? run.place[i] : run.register[i - 4];
            }
            shelves[d] = row;
        } else {
            short[] row = new short[code.get(k).size()];
            for (int i = 0; i < row.length; i++) {
                row[i] = (short) code.get(k).get(i)[0];
            }
            shelves[d] = row;
        }
        return 0;
    }

    int make(int d, int what, int n) {
        if (!in(d, 0, 7) || !in(what, 3, 4) || n > 60) {
            return -1;
        }
        if (n < 0) {
            return -14;
        }
        shelves[d] = what == 3 ? (Object) new long[n] : new short[n];
        return 0;
    }

    private static int sizeOf(Object held) {
        return held instanceof long[] longs ? longs.length : ((short[]) held).length;
    }

    private static boolean isRow(Object held) {
        return held instanceof long[] || held instanceof short[];
    }

    String element(int d, int i) {
        if (!in(d, 0, 7)) {
            return "IllegalArgumentException";
        }
        Object held = shelves[d];
        if (!isRow(held) || !in(i, 0, sizeOf(held) - 1)) {
            return "IllegalStateException";
        }
        return held instanceof long[] longs ? Long.toString(longs[i]) : Long.toString(((short[]) held)[i]);
    }

    int copy(int d, int i, int e, int j, int n) {
        if (!in(d, 0, 7) || !in(e, 0, 7)) {
            return -1;
        }
        Object from = shelves[d];
        Object to = shelves[e];
        if (from == null || to == null) {
            return -11;
        }
        if (!isRow(from) || !isRow(to) || from.getClass() != to.getClass()) {
            return -12;
        }
        if (n < 0 || i < 0 || j < 0 || (long) i + n > sizeOf(from) || (long) j + n > sizeOf(to)) {
            return -13;
        }
        if (from instanceof long[] longs) {
            long[] before = longs.clone();
            for (int k = 0; k < n; k++) {
                ((long[]) to)[j + k] = before[i + k];
            }
        } else {
            short[] before = ((short[]) from).clone();
            for (int k = 0; k < n; k++) {
                ((short[]) to)[j + k] = before[i + k];
            }
        }
        return n;
    }

    private int statementRefusal(int d) {
        if (!in(d, 0, 7)) {
            return -1;
        }
        return shelves[d] == null ? -11 : shelves[d] instanceof int[] ? 0 : -12;
    }

    int weight(int d) {
        if (statementRefusal(d) != 0) {
            return statementRefusal(d);
        }
        return switch (((int[]) shelves[d])[0]) {
            case 0 -> 11;
            case 1 -> 12;
            case 2 -> 13;
            case 3 -> 4;
            case 4 -> 5;
            case 5 -> 16;
            case 6 -> 117;
            case 7 -> 236;
            case 8 -> 1009;
            case 9 -> 1010;
            case 10 -> 2022;
            case 11 -> 1012;
            default -> 13;
        };
    }

    int toss(int d) {
        if (statementRefusal(d) != 0) {
            return statementRefusal(d);
        }
        int[] statement = (int[]) shelves[d];
        return hasLock(statement[0]) ? statement[1] : -15;
    }
}
