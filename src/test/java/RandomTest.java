import java.util.Random;

/** All promises: random runs of 512 calls, compared with the naive school. */
public final class RandomTest {
    private static final Check CHECK = new Check();
    private static final int RUNS = 400;
    private static final int CALLS = 512;

    private final Random random;
    private final int seed;
    private final TurnSchool school = new TurnSchool();
    private final NaiveSchool naive = new NaiveSchool();
    private int calls = 0;
    private int hands = 1;

    private RandomTest(int seed) {
        this.seed = seed;
        random = new Random(seed);
    }

    public static void main(String[] args) {
        for (int seed = 0; seed < RUNS; seed++) {
            new RandomTest(seed).run();
        }
        CHECK.end();
    }

    private void run() {
        while (calls < CALLS) {
            writePuzzle();
            int asks = 10 + random.nextInt(30);
            for (int k = 0; k < asks && calls < CALLS; k++) {
                ask();
            }
        }
    }

    private void due(String call, int got, int want) {
        calls++;
        CHECK.due("seed " + seed + " call " + calls + ": " + call, got, want);
    }

    /** Mostly within the bound, at times just outside it, seldom far off. */
    private int number(int bound) {
        int chance = random.nextInt(60);
        if (chance == 0) {
            return -1;
        }
        if (chance == 1) {
            return bound;
        }
        if (chance == 2) {
            int[] far = {Integer.MIN_VALUE, Integer.MAX_VALUE, -100, 100};
            return far[random.nextInt(4)];
        }
        return random.nextInt(bound);
    }

    private void writePuzzle() {
        int[] choice = {1, 2, 2, 2, 2, 3, 3};
        hands = choice[random.nextInt(choice.length)];
        due("puzzle(" + hands + ")", school.puzzle(hands), naive.puzzle(hands));
        int most = hands == 2 ? random.nextInt(3) == 0 ? 7 : 4 : hands == 3 ? 5 : 8;
        int flavour = random.nextInt(5);
        for (int hand = 0; hand < hands; hand++) {
            int length = random.nextInt(4) == 0 ? random.nextInt(most + 1) : (most + 1) / 2 + random.nextInt(most / 2 + 1);
            for (int i = 0; i < length; i++) {
                int kind = kindOf(flavour);
                statement(hand, kind, random.nextInt(flavour == 4 ? 1 : flavour == 0 ? 2 : 3), random.nextInt(kind == 4 ? 6 : 4));
            }
        }
        if (random.nextInt(3) == 0) {
            int p = random.nextInt(4);
            int v = random.nextInt(10);
            due("value(" + p + ", " + v + ")", school.value(p, v), naive.value(p, v));
        }
    }

    private int kindOf(int flavour) {
        int[][] mixes = {
            {0, 1, 2, 3, 4, 5, 6, 7},
            {8, 9, 8, 9, 10, 11, 6, 4, 3},
            {0, 1, 2, 3, 4, 5, 6, 7, 8, 9, 10, 11, 12},
            {6, 6, 3, 4, 4, 12, 1, 2, 8, 9},
            {6, 6, 1, 3, 2, 3, 4}};
        int[] mix = mixes[flavour];
        return mix[random.nextInt(mix.length)];
    }

    private void statement(int hand, int kind, int a, int n) {
        due("code(" + hand + ", " + kind + ", " + a + ", " + n + ")",
            school.code(hand, kind, a, n), naive.code(hand, kind, a, n));
    }

    private void ask() {
        switch (random.nextInt(12)) {
            case 0, 1 -> askRun();
            case 2, 3, 4 -> askOrders();
            case 5, 6 -> askMore();
            case 7 -> askFix();
            case 8 -> askLearner();
            case 9, 10 -> askShelves();
            default -> askPuzzle();
        }
    }

    private void askPuzzle() {
        int hand = number(hands);
        int i = number(8);
        int what = number(3);
        int kind = number(13);
        int a = number(4);
        int n = number(10);
        switch (random.nextInt(8)) {
            case 0 -> statement(hand, kind, a, n);
            case 1 -> due("uncode(" + hand + ")", school.uncode(hand), naive.uncode(hand));
            case 2 -> due("value(" + a + ", " + n + ")", school.value(a, n), naive.value(a, n));
            case 3 -> {
                int bad = random.nextBoolean() ? 0 : 4;
                due("puzzle(" + bad + ")", school.puzzle(bad), naive.puzzle(bad));
            }
            default -> due("told(" + hand + ", " + i + ", " + what + ")",
                school.told(hand, i, what), naive.told(hand, i, what));
        }
    }

    private void askRun() {
        int hand = number(hands);
        int what = number(7);
        int i = number(4);
        switch (random.nextInt(8)) {
            case 0 -> due("start()", school.start(), naive.start());
            case 1, 2, 3 -> due("see(" + what + ", " + i + ")", school.see(what, i), naive.see(what, i));
            default -> due("go(" + hand + ")", school.go(hand), naive.go(hand));
        }
    }

    private void askOrders() {
        int picture = number(5);
        int what = number(3);
        int i = number(4);
        int size = naive.states(0);
        int state = number(size > 0 ? size : 2000);
        switch (random.nextInt(6)) {
            case 0 -> due("states(" + picture + ")", school.states(picture), naive.states(picture));
            case 1 -> due("count(" + what + ")", school.count(what), naive.count(what));
            case 2 -> due("nth(" + what + ", " + i + ")", school.nth(what, i), naive.nth(what, i));
            case 3 -> due("way(" + state + ")", school.way(state), naive.way(state));
            case 4 -> {
                int k = number(10);
                due("step(" + state + ", " + k + ")", school.step(state, k), naive.step(state, k));
            }
            default -> due("lead(" + state + ")", school.lead(state), naive.lead(state));
        }
    }

    private void askMore() {
        int hand = number(hands);
        int other = number(hands);
        int i = number(4);
        int p = number(4);
        int n = number(10);
        int picture = number(5);
        switch (random.nextInt(3)) {
            case 0 -> due("race(" + hand + ", " + other + ")", school.race(hand, other), naive.race(hand, other));
            case 1 -> due("always(" + hand + ", " + i + ", " + p + ", " + n + ")",
                school.always(hand, i, p, n), naive.always(hand, i, p, n));
            default -> due("can(" + picture + ", " + p + ", " + n + ")",
                school.can(picture, p, n), naive.can(picture, p, n));
        }
    }

    private void askFix() {
        int lock = number(3);
        int p = random.nextBoolean() ? number(4) : 0;
        int n = random.nextInt(3) == 0 ? number(10) : random.nextInt(4);
        due("fix(" + lock + ", " + p + ", " + n + ")", school.fix(lock, p, n), naive.fix(lock, p, n));
        for (int k = 0; k < 3; k++) {
            int hand = number(2);
            int what = number(2);
            due("fixed(" + hand + ", " + what + ")", school.fixed(hand, what), naive.fixed(hand, what));
        }
    }

    private void askLearner() {
        int p = number(4);
        int n = number(10);
        boolean yes = random.nextBoolean();
        int picture = number(5);
        switch (random.nextInt(4)) {
            case 0 -> due("cost(" + picture + ")", school.cost(picture), naive.cost(picture));
            case 1 -> due("explain()", school.explain(), naive.explain());
            case 2 -> due("next()", school.next(), naive.next());
            default -> due("answer(" + p + ", " + n + ", " + yes + ")", school.answer(p, n, yes), naive.answer(p, n, yes));
        }
    }

    private void askShelves() {
        int d = number(8);
        int e = number(8);
        int what = number(5);
        int k = number(hands);
        int n = number(6);
        int i = number(5);
        int j = number(5);
        switch (random.nextInt(7)) {
            case 0, 1 -> due("keep(" + d + ", " + what + ", " + k + ", " + n + ")",
                school.keep(d, what, k, n), naive.keep(d, what, k, n));
            case 2 -> {
                int size = number(61);
                due("make(" + d + ", " + what + ", " + size + ")", school.make(d, what, size), naive.make(d, what, size));
            }
            case 3 -> {
                calls++;
                CHECK.same("seed " + seed + " call " + calls + ": element(" + d + ", " + i + ")",
                    Check.element(school, d, i), naive.element(d, i));
            }
            case 4 -> due("copy(" + d + ", " + i + ", " + e + ", " + j + ", " + n + ")",
                school.copy(d, i, e, j, n), naive.copy(d, i, e, j, n));
            case 5 -> due("weight(" + d + ")", school.weight(d), naive.weight(d));
            default -> due("toss(" + d + ")", school.toss(d), naive.toss(d));
        }
    }
}
