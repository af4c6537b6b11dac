import java.util.Arrays;

/**
 * A school for thinking about two things at once: puzzles that several hands
 * run, all their orders, fixes by a lock, and learners' wrong pictures.
 * The promises are numbered in the project's document, DOC.md.
 */
public final class TurnSchool {

    private static final int MOST_HANDS = 3;
    private static final int MOST_STATEMENTS = 8;
    private static final int PLACES = 4;
    private static final int LOCKS = 3;
    private static final int DIGITS = 10;
    private static final int QUESTIONS = PLACES * DIGITS;
    private static final int PICTURES = 5;
    private static final int SHELVES = 8;
    private static final int MOST_STATES = 2000;
    private static final int MOST_ELEMENTS = 60;

    private static final int SET = 0;
    private static final int TAKE = 1;
    private static final int GIVE = 2;
    private static final int ADD = 3;
    private static final int JUMP = 4;
    private static final int UNTIL = 5;
    private static final int LONG = 6;
    private static final int TEST = 7;
    private static final int ENTER = 8;
    private static final int LEAVE = 9;
    private static final int WAIT = 10;
    private static final int CALL = 11;
    private static final int MEET = 12;
    private static final int KINDS = 13;

    private static final int WITHOUT = 0;
    private static final int OF_PLACE = 1;
    private static final int OF_LOCK = 2;
    /** By kind: what a statement's a is. */
    private static final int[] OPERAND = {1, 1, 1, 0, 0, 1, 1, 1, 2, 2, 2, 2, 0};
    /** By kind: the greatest n, -1 for kinds without one. */
    private static final int[] TOP = {9, -1, -1, 9, 8, 9, 9, -1, -1, -1, -1, -1, -1};

    private static final int TRUE = 0;
    private static final int WHOLE = 1;
    private static final int TURNS = 2;
    private static final int SHORT = 3;
    private static final int OPEN = 4;

    private static final int WRONG = -1;
    private static final int NONE = -2;
    private static final int FULL = -2;
    private static final int TOO_FEW = -3;
    private static final int SPENT = -5;
    private static final int NOTHING_HELD = -11;
    private static final int OTHER_KIND = -12;
    private static final int NO_PLACE = -13;
    private static final int BELOW_ZERO = -14;
    private static final int NO_FAILURE = -15;

    private final Program program = new Program();
    private final Machine machine = new Machine(program);
    private final Orders truth = new Orders();
    private final Orders scratch = new Orders();
    private final Loops loops = new Loops();
    private final Fixer fixer = new Fixer(program, scratch);
    private final Learner learner = new Learner();
    private final Held[] shelves = new Held[SHELVES];
    /** By picture: its number of states, SPENT, or 0 while it isn't gone through. */
    private final int[] sizes = new int[PICTURES];
    /** By picture: bit 10 p + n tells that an end has n at place p. */
    private final long[] ends = new long[PICTURES];
    private boolean loopsKnown = false;
    private long run = 0;

    public TurnSchool() {
    }

    // ---- puzzles

    public int puzzle(int hands) {
        if (hands < 1 || hands > MOST_HANDS) {
            return WRONG;
        }
        int before = program.statements();
        program.renew(hands);
        forget();
        return before;
    }

    public int code(int hand, int kind, int a, int n) {
        if (!program.hasHand(hand) || !isStatement(kind, a, n)) {
            return WRONG;
        }
        if (program.lengthOf(hand) >= MOST_STATEMENTS) {
            return FULL;
        }
        program.append(hand, kind, a, n);
        forget();
        return program.lengthOf(hand) - 1;
    }

    public int uncode(int hand) {
        if (!program.hasHand(hand)) {
            return WRONG;
        }
        if (program.lengthOf(hand) == 0) {
            return TOO_FEW;
        }
        program.dropLast(hand);
        forget();
        return program.lengthOf(hand);
    }

    public int value(int place, int v) {
        if (!within(place, PLACES) || !within(v, DIGITS)) {
            return WRONG;
        }
        int before = program.atFirst[place];
        if (before != v) {
            program.atFirst[place] = v;
            forget();
        }
        return before;
    }

    public int told(int hand, int i, int what) {
        if (!program.hasStatement(hand, i) || !within(what, 3)) {
            return WRONG;
        }
        int cell = program.cellOf(hand, i);
        int kind = program.kindIn(cell);
        if (what == 0) {
            return kind;
        }
        if (what == 1) {
            return operandOf(kind) == WITHOUT ? NONE : program.operandIn(cell);
        }
        return topOf(kind) < 0 ? NONE : program.numberIn(cell);
    }

    // ---- the run

    public int start() {
        return movedRunTo(machine.first());
    }

    public int go(int hand) {
        if (!program.hasHand(hand)) {
            return WRONG;
        }
        if (!runCanStep(hand)) {
            return 0;
        }
        run = machine.after(run, hand);
        return 1;
    }

    public int see(int what, int i) {
        if (what == 5) {
            return within(i, PLACES) ? Bits.place(run, i) : WRONG;
        }
        if (what == 6) {
            return within(i, LOCKS) ? ownerSeen(i) : WRONG;
        }
        if (!within(what, 5) || !program.hasHand(i)) {
            return WRONG;
        }
        switch (what) {
            case 0:
                return positionSeen(i);
            case 1:
                return Bits.register(run, i);
            case 2:
                return Bits.made(run, i);
            case 3:
                return runCanStep(i) ? 1 : 0;
            default:
                return Bits.sleep(run, i);
        }
    }

    private boolean runCanStep(int hand) {
        return (machine.ableHands(run) >>> hand & 1) != 0;
    }

    private int ownerSeen(int lock) {
        int owner = Bits.owner(run, lock);
        return owner < 0 ? NONE : owner;
    }

    private int positionSeen(int hand) {
        int at = Bits.position(run, hand);
        if (at == Bits.FAILED) {
            return 11;
        }
        return at >= program.lengthOf(hand) ? 10 : at;
    }

    private int movedRunTo(long state) {
        if (run == state) {
            return 0;
        }
        run = state;
        return 1;
    }

    // ---- all orders

    public int states(int picture) {
        return within(picture, PICTURES) ? sizeOf(picture) : WRONG;
    }

    public int count(int what) {
        if (!within(what, 3)) {
            return WRONG;
        }
        if (sizeOf(TRUE) == SPENT) {
            return SPENT;
        }
        int number = 0;
        for (int s = 0; s < truth.total; s++) {
            if (isOfSort(s, what)) {
                number++;
            }
        }
        return number;
    }

    public int nth(int what, int i) {
        if (!within(what, 3) || i < 0) {
            return WRONG;
        }
        if (sizeOf(TRUE) == SPENT) {
            return SPENT;
        }
        int ahead = i;
        for (int s = 0; s < truth.total; s++) {
            if (isOfSort(s, what)) {
                if (ahead == 0) {
                    return s;
                }
                ahead--;
            }
        }
        return TOO_FEW;
    }

    public int way(int state) {
        int refusal = refusalOf(state);
        return refusal != 0 ? refusal : truth.wayLength(state);
    }

    public int step(int state, int k) {
        if (k < 0) {
            return WRONG;
        }
        int refusal = refusalOf(state);
        if (refusal != 0) {
            return refusal;
        }
        return k >= truth.wayLength(state) ? TOO_FEW : truth.wayHand(state, k);
    }

    public int lead(int state) {
        int refusal = refusalOf(state);
        return refusal != 0 ? refusal : movedRunTo(truth.stateAt(state));
    }

    public int race(int hand, int other) {
        if (!program.hasHand(hand) || !program.hasHand(other) || hand == other) {
            return WRONG;
        }
        if (sizeOf(TRUE) == SPENT) {
            return SPENT;
        }
        for (int s = 0; s < truth.total; s++) {
            if (machine.races(truth.stateAt(s), hand, other)) {
                return s;
            }
        }
        return NONE;
    }

    public int always(int hand, int i, int p, int n) {
        if (!program.hasStatement(hand, i) || !within(p, PLACES) || !within(n, DIGITS)) {
            return WRONG;
        }
        if (sizeOf(TRUE) == SPENT) {
            return SPENT;
        }
        for (int s = 0; s < truth.total; s++) {
            long state = truth.stateAt(s);
            boolean there = Bits.position(state, hand) == i && Bits.made(state, hand) == 0;
            if (there && Bits.place(state, p) != n) {
                return s;
            }
        }
        return NONE;
    }

    public int can(int picture, int p, int n) {
        if (!within(picture, PICTURES) || !within(p, PLACES) || !within(n, DIGITS)) {
            return WRONG;
        }
        if (sizeOf(picture) == SPENT) {
            return SPENT;
        }
        return says(ends[picture], DIGITS * p + n) ? 1 : 0;
    }

    /** Whether a state of TRUE is an end (0), stuck (1), or comes back (2). */
    private boolean isOfSort(int s, int what) {
        if (what != 2) {
            return truth.sortOf(s) == (what == 0 ? Orders.END : Orders.STUCK);
        }
        if (!loopsKnown) {
            loops.find(truth);
            loopsKnown = true;
        }
        return loops.comesBack(s);
    }

    /** 0 for a state of TRUE; being spent stands ahead of a number too great. */
    private int refusalOf(int state) {
        if (state < 0) {
            return WRONG;
        }
        int size = sizeOf(TRUE);
        if (size == SPENT) {
            return SPENT;
        }
        return state >= size ? WRONG : 0;
    }

    /** Goes through a picture's orders, once for each puzzle. */
    private int sizeOf(int picture) {
        if (sizes[picture] == 0) {
            Orders orders = picture == TRUE ? truth : scratch;
            machine.picture = picture;
            orders.explore(machine, false);
            machine.picture = TRUE;
            sizes[picture] = orders.spent ? SPENT : orders.total;
            ends[picture] = orders.ends;
        }
        return sizes[picture];
    }

    private boolean someSpent() {
        boolean some = false;
        for (int picture = 0; picture < PICTURES; picture++) {
            some |= sizeOf(picture) == SPENT;
        }
        return some;
    }

    // ---- fixes, learners

    public int fix(int lock, int p, int n) {
        if (!within(lock, LOCKS) || !within(p, PLACES) || !within(n, DIGITS)) {
            return WRONG;
        }
        return fixer.fits() ? fixer.least(lock, p, n) : TOO_FEW;
    }

    public int fixed(int hand, int what) {
        if (!within(hand, 2) || !within(what, 2)) {
            return WRONG;
        }
        return fixer.succeeded ? fixer.bound(hand, what) : TOO_FEW;
    }

    public int answer(int p, int n, boolean yes) {
        if (!within(p, PLACES) || !within(n, DIGITS)) {
            return WRONG;
        }
        learner.hear(DIGITS * p + n, yes);
        return learner.heard();
    }

    public int cost(int picture) {
        if (!within(picture, PICTURES)) {
            return WRONG;
        }
        return someSpent() ? SPENT : learner.costBy(ends[picture]);
    }

    public int explain() {
        return someSpent() ? SPENT : learner.cheapest(ends);
    }

    public int next() {
        if (learner.heard() == QUESTIONS) {
            return NONE;
        }
        return someSpent() ? SPENT : learner.bestQuestion(ends);
    }

    public int keep(int d, int what, int k, int n) {
        if (!within(d, SHELVES)) {
            return WRONG;
        }
        if (what == 0) {
            shelves[d] = null;
            return 0;
        }
        if (what == 1 && program.hasStatement(k, n)) {
            shelves[d] = statementOf(k, n);
            return 0;
        }
        if (what == 3) {
            shelves[d] = numbersOfRun();
            return 0;
        }
        if (what == 4 && program.hasHand(k)) {
            shelves[d] = kindsOf(k);
            return 0;
        }
        return WRONG;
    }

    public int make(int d, int what, int n) {
        if (!within(d, SHELVES) || what != 3 && what != 4 || n > MOST_ELEMENTS) {
            return WRONG;
        }
        if (n < 0) {
            return BELOW_ZERO;
        }
        shelves[d] = what == 3 ? new LongRow(n) : new ShortRow(n);
        return 0;
    }

    public long element(int d, int i) throws IllegalArgumentException, IllegalStateException {
        if (!within(d, SHELVES)) {
            throw new IllegalArgumentException("no such shelf");
        }
        Held held = shelves[d];
        if (held instanceof LongRow row && within(i, row.cells.length)) {
            return row.cells[i];
        }
        if (held instanceof ShortRow row && within(i, row.cells.length)) {
            return row.cells[i];
        }
        throw new IllegalStateException("no such element");
    }

    public int copy(int d, int i, int e, int j, int n) {
        if (!within(d, SHELVES) || !within(e, SHELVES)) {
            return WRONG;
        }
        Held from = shelves[d];
        Held to = shelves[e];
        if (from == null || to == null) {
            return NOTHING_HELD;
        }
        if (from instanceof LongRow source && to instanceof LongRow target) {
            if (!spans(source.cells.length, i, n) || !spans(target.cells.length, j, n)) {
                return NO_PLACE;
            }
            System.arraycopy(source.cells, i, target.cells, j, n);
            return n;
        }
        if (from instanceof ShortRow source && to instanceof ShortRow target) {
            if (!spans(source.cells.length, i, n) || !spans(target.cells.length, j, n)) {
                return NO_PLACE;
            }
            System.arraycopy(source.cells, i, target.cells, j, n);
            return n;
        }
        return OTHER_KIND;
    }

    /** Whether a row has n elements from a place on; n + from could overflow. */
    private static boolean spans(int length, int from, int n) {
        return n >= 0 && from >= 0 && n <= length - from;
    }

    public int weight(int d) {
        if (!within(d, SHELVES)) {
            return WRONG;
        }
        Held held = shelves[d];
        if (held == null) {
            return NOTHING_HELD;
        }
        return held instanceof Statement statement ? statement.heaviness() : OTHER_KIND;
    }

    public int toss(int d) {
        if (!within(d, SHELVES)) {
            return WRONG;
        }
        Held held = shelves[d];
        if (held == null) {
            return NOTHING_HELD;
        }
        return held instanceof Statement statement ? lockOfFailure(statement) : OTHER_KIND;
    }

    private static int lockOfFailure(Statement statement) {
        try {
            statement.fail();
        } catch (IllegalStateException failure) {
            return statement.a;
        }
        return NO_FAILURE;
    }

    private Statement statementOf(int hand, int i) {
        int cell = program.cellOf(hand, i);
        return new Statement(program.kindIn(cell), program.operandIn(cell));
    }

    private LongRow numbersOfRun() {
        LongRow row = new LongRow(PLACES + program.hands);
        for (int p = 0; p < PLACES; p++) {
            row.cells[p] = Bits.place(run, p);
        }
        for (int hand = 0; hand < program.hands; hand++) {
            row.cells[PLACES + hand] = Bits.register(run, hand);
        }
        return row;
    }

    private ShortRow kindsOf(int hand) {
        int length = program.lengthOf(hand);
        ShortRow row = new ShortRow(length);
        for (int i = 0; i < length; i++) {
            row.cells[i] = (short) program.kindIn(program.cellOf(hand, i));
        }
        return row;
    }

    /** The puzzle is another one: what was found of the old one is stale. */
    private void forget() {
        Arrays.fill(sizes, 0);
        loopsKnown = false;
        fixer.stale = true;
        learner.clear();
        run = machine.first();
    }

    private static boolean within(int number, int bound) {
        return number >= 0 && number < bound;
    }

    private static boolean says(long questions, int question) {
        return (questions >>> question & 1L) != 0;
    }

    private static int operandOf(int kind) {
        return within(kind, KINDS) ? OPERAND[kind] : WITHOUT;
    }

    private static int topOf(int kind) {
        return within(kind, KINDS) ? TOP[kind] : -1;
    }

    private static boolean isStatement(int kind, int a, int n) {
        if (!within(kind, KINDS)) {
            return false;
        }
        int operand = operandOf(kind);
        if (operand == OF_PLACE && !within(a, PLACES)) {
            return false;
        }
        if (operand == OF_LOCK && !within(a, LOCKS)) {
            return false;
        }
        int top = topOf(kind);
        return top < 0 || n >= 0 && n <= top;
    }

    /**
     * A state in one long, so that thousands of states cost no objects: twelve
     * bits a hand, four a place, two a lock, two for the hand that stepped last.
     */
    private static final class Bits {
        static final int FAILED = 15;
        private static final int HAND = 12;
        private static final int MADE = 4;
        private static final int REGISTER = 6;
        private static final int SLEEP = 10;
        private static final int FIRST_PLACE = MOST_HANDS * HAND;
        private static final int FIRST_LOCK = FIRST_PLACE + 4 * PLACES;
        private static final int LAST = FIRST_LOCK + 2 * LOCKS;
        /** Of a hand's bits: the steps made, and the sleep. */
        private static final long MADE_AND_SLEEP = 3L << MADE | 3L << SLEEP;

        static int position(long state, int hand) {
            return (int) (state >>> HAND * hand) & 15;
        }

        static int made(long state, int hand) {
            return (int) (state >>> HAND * hand + MADE) & 3;
        }

        static int register(long state, int hand) {
            return (int) (state >>> HAND * hand + REGISTER) & 15;
        }

        /** 0 awake, 1 it sleeps, 2 woken. */
        static int sleep(long state, int hand) {
            return (int) (state >>> HAND * hand + SLEEP) & 3;
        }

        static int place(long state, int p) {
            return (int) (state >>> FIRST_PLACE + 4 * p) & 15;
        }

        /** The hand that has a lock, -1 while it is free. */
        static int owner(long state, int lock) {
            return ((int) (state >>> FIRST_LOCK + 2 * lock) & 3) - 1;
        }

        /** The hand that stepped last, -1 where none did or none is told. */
        static int last(long state) {
            return ((int) (state >>> LAST) & 3) - 1;
        }

        /** At a position, with none of its steps made, and awake. */
        static long withPosition(long state, int hand, int at) {
            int shift = HAND * hand;
            return state & ~((MADE_AND_SLEEP | 15L) << shift) | (long) at << shift;
        }

        /** Behind the statement that the hand is at. */
        static long passed(long state, int hand) {
            int shift = HAND * hand;
            return (state & ~(MADE_AND_SLEEP << shift)) + (1L << shift);
        }

        static long withMade(long state, int hand, int made) {
            int shift = HAND * hand + MADE;
            return state & ~(3L << shift) | (long) made << shift;
        }

        static long withRegister(long state, int hand, int number) {
            int shift = HAND * hand + REGISTER;
            return state & ~(15L << shift) | (long) number << shift;
        }

        static long withSleep(long state, int hand, int sleep) {
            int shift = HAND * hand + SLEEP;
            return state & ~(3L << shift) | (long) sleep << shift;
        }

        static long withPlace(long state, int p, int number) {
            int shift = FIRST_PLACE + 4 * p;
            return state & ~(15L << shift) | (long) number << shift;
        }

        /** The owner -1 frees the lock. */
        static long withOwner(long state, int lock, int owner) {
            int shift = FIRST_LOCK + 2 * lock;
            return state & ~(3L << shift) | (long) (owner + 1) << shift;
        }

        static long withLast(long state, int hand) {
            return state & ~(3L << LAST) | (long) (hand + 1) << LAST;
        }
    }

    /** The hands' statements, and the places' numbers at first. */
    private static final class Program {
        int hands = 1;
        final int[] atFirst = new int[PLACES];
        private final int[] lengths = new int[MOST_HANDS];
        private final int[] kinds = new int[MOST_HANDS * MOST_STATEMENTS];
        private final int[] operands = new int[MOST_HANDS * MOST_STATEMENTS];
        private final int[] numbers = new int[MOST_HANDS * MOST_STATEMENTS];

        void renew(int howMany) {
            hands = howMany;
            Arrays.fill(lengths, 0);
            Arrays.fill(atFirst, 0);
        }

        boolean hasHand(int hand) {
            return hand >= 0 && hand < hands;
        }

        boolean hasStatement(int hand, int i) {
            return hand >= 0 && hand < hands && i >= 0 && i < lengths[hand];
        }

        int lengthOf(int hand) {
            return hand >= 0 && hand < hands ? lengths[hand] : 0;
        }

        int statements() {
            int sum = 0;
            for (int hand = 0; hand < hands; hand++) {
                sum += lengths[hand];
            }
            return sum;
        }

        /** The statement's cell, or -1: the hand has ended there, or failed. */
        int cellOf(int hand, int i) {
            boolean there = hand >= 0 && hand < hands && i >= 0 && i < lengths[hand];
            return there ? hand * MOST_STATEMENTS + i : -1;
        }

        int kindIn(int cell) {
            return cell >= 0 && cell < kinds.length ? kinds[cell] : -1;
        }

        int operandIn(int cell) {
            return cell >= 0 && cell < operands.length ? operands[cell] : -1;
        }

        int numberIn(int cell) {
            return cell >= 0 && cell < numbers.length ? numbers[cell] : -1;
        }

        void append(int hand, int kind, int a, int n) {
            if (!hasHand(hand) || lengths[hand] >= MOST_STATEMENTS) {
                return;
            }
            int cell = hand * MOST_STATEMENTS + lengths[hand];
            kinds[cell] = kind;
            operands[cell] = a;
            numbers[cell] = n;
            lengths[hand]++;
        }

        void dropLast(int hand) {
            if (hasHand(hand) && lengths[hand] > 0) {
                lengths[hand]--;
            }
        }
    }

    /** What the steps of a program do, by a picture. */
    private static final class Machine {
        final Program program;
        int picture = TRUE;

        Machine(Program program) {
            this.program = program;
        }

        long first() {
            long state = 0;
            for (int p = 0; p < PLACES; p++) {
                state = Bits.withPlace(state, p, program.atFirst[p]);
            }
            return state;
        }

        /** The hands that could step, whoever's turn it is, as bits. */
        int ableHands(long state) {
            boolean meeting = allMeet(state);
            int able = 0;
            for (int hand = 0; hand < program.hands; hand++) {
                if (isAble(state, hand, meeting)) {
                    able |= 1 << hand;
                }
            }
            return able;
        }

        private boolean allMeet(long state) {
            for (int hand = 0; hand < program.hands; hand++) {
                int cell = program.cellOf(hand, Bits.position(state, hand));
                if (cell >= 0 && program.kindIn(cell) != MEET) {
                    return false;
                }
            }
            return true;
        }

        private boolean isAble(long state, int hand, boolean meeting) {
            int cell = program.cellOf(hand, Bits.position(state, hand));
            if (cell < 0) {
                return false;
            }
            int a = program.operandIn(cell);
            switch (program.kindIn(cell)) {
                case UNTIL:
                    return Bits.place(state, a) == program.numberIn(cell);
                case ENTER:
                    return picture == OPEN || Bits.owner(state, a) < 0;
                case WAIT:
                    boolean woken = Bits.sleep(state, hand) == 2;
                    return Bits.made(state, hand) == 0
                        || woken && (picture == OPEN || Bits.owner(state, a) < 0);
                case MEET:
                    return meeting;
                default:
                    return true;
            }
        }

        /** Of the able hands those that the picture lets step. */
        int chosenHands(int able, int last) {
            if (picture == WHOLE && last >= 0 && (able >>> last & 1) != 0) {
                return 1 << last;
            }
            if (picture != TURNS) {
                return able;
            }
            for (int k = 1; k <= program.hands; k++) {
                int hand = last + k < program.hands ? last + k : last + k - program.hands;
                if ((able >>> hand & 1) != 0) {
                    return 1 << hand;
                }
            }
            return 0;
        }

        /** In WHOLE and TURNS a state tells the hand that stepped last, too. */
        long marked(long state, int hand) {
            return picture == WHOLE || picture == TURNS ? Bits.withLast(state, hand) : state;
        }

        /** The state behind a step of a hand that is able to make it. */
        long after(long state, int hand) {
            int cell = program.cellOf(hand, Bits.position(state, hand));
            int a = program.operandIn(cell);
            int n = program.numberIn(cell);
            int register = Bits.register(state, hand);
            switch (program.kindIn(cell)) {
                case SET:
                    return Bits.passed(Bits.withPlace(state, a, n), hand);
                case TAKE:
                    return Bits.passed(taken(state, hand, a), hand);
                case GIVE:
                    return Bits.passed(Bits.withPlace(state, a, register), hand);
                case ADD:
                    return Bits.passed(added(state, hand, n), hand);
                case JUMP:
                    return register == 0 ? jumped(state, hand, n) : Bits.passed(state, hand);
                case UNTIL:
                    return Bits.passed(state, hand);
                case LONG:
                    return picture == SHORT ? longWhole(state, hand, a, n)
                        : longStep(state, hand, a, n);
                case TEST:
                    return Bits.passed(Bits.withPlace(taken(state, hand, a), a, 1), hand);
                case ENTER:
                    return Bits.passed(Bits.withOwner(state, a, hand), hand);
                case LEAVE:
                    return left(state, hand, a);
                case WAIT:
                    return waited(state, hand, a);
                case CALL:
                    return Bits.passed(called(state, a), hand);
                case MEET:
                    return met(state);
                default:
                    return state;
            }
        }

        private static long taken(long state, int hand, int p) {
            return Bits.withRegister(state, hand, Bits.place(state, p));
        }

        private static long added(long state, int hand, int n) {
            return Bits.withRegister(state, hand, (Bits.register(state, hand) + n) % DIGITS);
        }

        // One position stands for having ended, however far a jump leads.
        private long jumped(long state, int hand, int n) {
            return Bits.withPosition(state, hand, Math.min(n, program.lengthOf(hand)));
        }

        private static long longWhole(long state, int hand, int p, int n) {
            int sum = (Bits.place(state, p) + n) % DIGITS;
            long summed = Bits.withRegister(state, hand, sum);
            return Bits.passed(Bits.withPlace(summed, p, sum), hand);
        }

        private static long longStep(long state, int hand, int p, int n) {
            int made = Bits.made(state, hand);
            int register = Bits.register(state, hand);
            if (made == 0) {
                long read = Bits.withRegister(state, hand, Bits.place(state, p));
                return Bits.withMade(read, hand, 1);
            }
            if (made == 1) {
                long summed = Bits.withRegister(state, hand, (register + n) % DIGITS);
                return Bits.withMade(summed, hand, 2);
            }
            return Bits.passed(Bits.withPlace(state, p, register), hand);
        }

        private static long left(long state, int hand, int lock) {
            if (Bits.owner(state, lock) != hand) {
                return Bits.withPosition(state, hand, Bits.FAILED);
            }
            return Bits.passed(Bits.withOwner(state, lock, -1), hand);
        }

        private static long waited(long state, int hand, int lock) {
            if (Bits.made(state, hand) == 1) {
                return Bits.passed(Bits.withOwner(state, lock, hand), hand);
            }
            if (Bits.owner(state, lock) != hand) {
                return Bits.withPosition(state, hand, Bits.FAILED);
            }
            long freed = Bits.withOwner(state, lock, -1);
            return Bits.withSleep(Bits.withMade(freed, hand, 1), hand, 1);
        }

        private long called(long state, int lock) {
            for (int hand = 0; hand < program.hands; hand++) {
                int cell = program.cellOf(hand, Bits.position(state, hand));
                if (Bits.sleep(state, hand) == 1 && program.operandIn(cell) == lock) {
                    return Bits.withSleep(state, hand, 2);
                }
            }
            return state;
        }

        private long met(long state) {
            long behind = state;
            for (int hand = 0; hand < program.hands; hand++) {
                int cell = program.cellOf(hand, Bits.position(state, hand));
                if (program.kindIn(cell) == MEET) {
                    behind = Bits.passed(behind, hand);
                }
            }
            return behind;
        }

        boolean isEnd(long state) {
            for (int hand = 0; hand < program.hands; hand++) {
                if (program.cellOf(hand, Bits.position(state, hand)) >= 0) {
                    return false;
                }
            }
            return true;
        }

        boolean someFailed(long state) {
            for (int hand = 0; hand < program.hands; hand++) {
                if (Bits.position(state, hand) == Bits.FAILED) {
                    return true;
                }
            }
            return false;
        }

        boolean races(long state, int hand, int other) {
            int place = touched(state, hand);
            if (place < 0 || place != touched(state, other)) {
                return false;
            }
            int both = 1 << hand | 1 << other;
            boolean written = writes(state, hand) || writes(state, other);
            return written && (ableHands(state) & both) == both;
        }

        /** The place that a hand's next step reads or writes, or -1. */
        private int touched(long state, int hand) {
            int cell = program.cellOf(hand, Bits.position(state, hand));
            int kind = program.kindIn(cell);
            boolean idle = kind == LONG && Bits.made(state, hand) == 1;
            return operandOf(kind) != OF_PLACE || idle ? -1 : program.operandIn(cell);
        }

        private boolean writes(long state, int hand) {
            int kind = program.kindIn(program.cellOf(hand, Bits.position(state, hand)));
            boolean lastOfLong = kind == LONG && Bits.made(state, hand) == 2;
            return kind == SET || kind == GIVE || kind == TEST || lastOfLong;
        }
    }

    /** All orders of a machine: the states in the order they come. */
    private static final class Orders {
        static final int END = 1;
        static final int STUCK = 2;
        private static final int TABLE = 4096;

        int total = 0;
        boolean spent = false;
        /** Some state is stuck, or has a hand that failed. */
        boolean spoiled = false;
        /** Bit 10 p + n: an end has n at place p. */
        long ends = 0;
        private final long[] found = new long[MOST_STATES];
        private final int[] origins = new int[MOST_STATES];
        private final int[] movers = new int[MOST_STATES];
        private final int[] sorts = new int[MOST_STATES];
        private final int[] followers = new int[MOST_STATES * MOST_HANDS];
        /** By a state's hash: its number and 1; 0 is free. */
        private final int[] table = new int[TABLE];
        private final int[] cells = new int[MOST_STATES];

        /** Where only the unspoiled are wanted, it ends at what spoils. */
        void explore(Machine machine, boolean unspoiledOnly) {
            clear();
            numberOf(machine.first(), -1, -1);
            for (int s = 0; s < MOST_STATES && s < total; s++) {
                lookAt(machine, s);
                if (spent || unspoiledOnly && spoiled) {
                    return;
                }
            }
        }

        private void clear() {
            for (int s = 0; s < total; s++) {
                table[cells[s]] = 0;
            }
            total = 0;
            spent = false;
            spoiled = false;
            ends = 0;
        }

        private void lookAt(Machine machine, int s) {
            long state = found[s];
            int chosen = machine.chosenHands(machine.ableHands(state), Bits.last(state));
            for (int hand = 0; hand < MOST_HANDS; hand++) {
                int follower = -1;
                if ((chosen >>> hand & 1) != 0) {
                    long behind = machine.marked(machine.after(state, hand), hand);
                    follower = numberOf(behind, s, hand);
                }
                followers[s * MOST_HANDS + hand] = follower;
            }
            sorts[s] = chosen != 0 ? 0 : machine.isEnd(state) ? END : STUCK;
            spoiled |= sorts[s] == STUCK || machine.someFailed(state);
            if (sorts[s] == END) {
                noteEnd(state);
            }
        }

        private void noteEnd(long state) {
            for (int p = 0; p < PLACES; p++) {
                ends |= 1L << DIGITS * p + Bits.place(state, p);
            }
        }

        private int numberOf(long state, int origin, int mover) {
            int cell = (int) (state * 0x9E3779B97F4A7C15L >>> 52) & TABLE - 1;
            for (int tries = 0; tries < TABLE; tries++) {
                int number = table[cell] - 1;
                if (number < 0) {
                    return newNumber(state, cell, origin, mover);
                }
                if (found[number] == state) {
                    return number;
                }
                cell = cell + 1 & TABLE - 1;
            }
            return -1;
        }

        private int newNumber(long state, int cell, int origin, int mover) {
            if (total >= MOST_STATES) {
                spent = true;
                return -1;
            }
            int number = total++;
            found[number] = state;
            origins[number] = origin;
            movers[number] = mover;
            cells[number] = cell;
            table[cell] = number + 1;
            return number;
        }

        long stateAt(int s) {
            return within(s, total) ? found[s] : 0;
        }

        int sortOf(int s) {
            return within(s, total) ? sorts[s] : 0;
        }

        int follower(int s, int hand) {
            return within(s, total) && within(hand, MOST_HANDS)
                ? followers[s * MOST_HANDS + hand] : -1;
        }

        // States are looked at in turn, hands by numbers: so the step by which
        // a state first came is the last one of its way.
        int wayLength(int state) {
            int steps = 0;
            for (int s = state; steps < MOST_STATES && s > 0 && s < total; s = origins[s]) {
                steps++;
            }
            return steps;
        }

        int wayHand(int state, int k) {
            int s = state;
            for (int back = wayLength(state) - 1 - k; back > 0 && within(s, total); back--) {
                s = origins[s];
            }
            return within(s, total) ? movers[s] : -1;
        }
    }

    /**
     * The states that come back to themselves, by Tarjan's strong components;
     * it keeps its own path, as a path of states is too long for recursion.
     */
    private static final class Loops {
        private final int[] came = new int[MOST_STATES];
        private final int[] lowest = new int[MOST_STATES];
        private final int[] tried = new int[MOST_STATES];
        private final int[] path = new int[MOST_STATES];
        private final int[] open = new int[MOST_STATES];
        private final boolean[] isOpen = new boolean[MOST_STATES];
        private final boolean[] back = new boolean[MOST_STATES];
        private int depth = 0;
        private int opened = 0;
        private int arrivals = 0;

        boolean comesBack(int s) {
            return within(s, MOST_STATES) && back[s];
        }

        /** Every state comes from the first one, so one search finds them all. */
        void find(Orders orders) {
            Arrays.fill(came, 0);
            depth = 0;
            opened = 0;
            arrivals = 0;
            arrive(0);
            int most = MOST_STATES * (MOST_HANDS + 2);
            for (int turn = 0; turn < most && depth > 0; turn++) {
                int s = path[depth - 1];
                if (tried[s] < MOST_HANDS) {
                    follow(s, orders.follower(s, tried[s]++));
                } else {
                    leaveBehind(s);
                }
            }
        }

        private void arrive(int s) {
            if (depth >= MOST_STATES || opened >= MOST_STATES) {
                return;
            }
            arrivals++;
            came[s] = arrivals;
            lowest[s] = arrivals;
            tried[s] = 0;
            path[depth++] = s;
            open[opened++] = s;
            isOpen[s] = true;
            back[s] = false;
        }

        private void follow(int s, int to) {
            if (!within(to, MOST_STATES)) {
                return;
            }
            if (to == s) {
                back[s] = true;
            } else if (came[to] == 0) {
                arrive(to);
            } else if (isOpen[to]) {
                lowest[s] = Math.min(lowest[s], came[to]);
            }
        }

        private void leaveBehind(int s) {
            depth--;
            if (lowest[s] == came[s]) {
                closeComponent(s);
            }
            if (depth > 0) {
                int before = path[depth - 1];
                lowest[before] = Math.min(lowest[before], lowest[s]);
            }
        }

        private void closeComponent(int root) {
            boolean several = opened > 0 && open[opened - 1] != root;
            while (opened > 0) {
                int s = open[--opened];
                isOpen[s] = false;
                back[s] |= several;
                if (s == root) {
                    return;
                }
            }
        }
    }

    /** Looks for the least fix of a program of two short hands. */
    private static final class Fixer {
        private static final int LONGEST = 4;
        private static final int RANGES = 11;
        /** The ranges in their order, none ahead of all. */
        private static final int[] FROM = {-2, 0, 0, 0, 0, 1, 1, 1, 2, 2, 3};
        private static final int[] TO = {-2, 0, 1, 2, 3, 1, 2, 3, 2, 3, 3};
        private static final int[] WITHIN = {0, 1, 2, 3, 4, 1, 2, 3, 1, 2, 1};
        private static final long KNOWN = 1L << 62;
        private static final long SPOILED = 1L << 61;

        /** Whether some fix was found, and so bound() has an answer. */
        boolean succeeded = false;
        boolean stale = true;
        private final Program program;
        private final Orders orders;
        private final Program draft = new Program();
        private final Machine machine = new Machine(draft);
        private final int[] chosen = new int[2];
        /** By lock and ranges: KNOWN with the ends' bits, or with SPOILED. */
        private final long[] outcomes = new long[LOCKS * RANGES * RANGES];

        Fixer(Program program, Orders orders) {
            this.program = program;
            this.orders = orders;
        }

        boolean fits() {
            return program.hands == 2
                && program.lengthOf(0) <= LONGEST && program.lengthOf(1) <= LONGEST;
        }

        int bound(int hand, int what) {
            if (!within(hand, 2)) {
                return NONE;
            }
            return what == 0 ? FROM[chosen[hand]] : TO[chosen[hand]];
        }

        int least(int lock, int p, int n) {
            if (stale) {
                Arrays.fill(outcomes, 0);
                stale = false;
            }
            for (int inside = 0; inside <= 2 * LONGEST; inside++) {
                for (int pair = 0; pair < RANGES * RANGES; pair++) {
                    if (isPair(pair, inside) && holds(outcomeOf(lock, pair), p, n)) {
                        chosen[0] = pair / RANGES;
                        chosen[1] = pair % RANGES;
                        succeeded = true;
                        return inside;
                    }
                }
            }
            return NONE;
        }

        /** Whether both ranges are of the program, with so many inside. */
        private boolean isPair(int pair, int inside) {
            int first = pair / RANGES;
            int second = pair % RANGES;
            return WITHIN[first] + WITHIN[second] == inside
                && TO[first] < program.lengthOf(0) && TO[second] < program.lengthOf(1);
        }

        private static boolean holds(long outcome, int p, int n) {
            if ((outcome & SPOILED) != 0) {
                return false;
            }
            long ofPlace = outcome >>> DIGITS * p & (1L << DIGITS) - 1;
            return (ofPlace & ~(1L << n)) == 0;
        }

        private long outcomeOf(int lock, int pair) {
            int cell = lock * RANGES * RANGES + pair;
            if (outcomes[cell] == 0) {
                draftPair(lock, pair);
                orders.explore(machine, true);
                boolean bad = orders.spent || orders.spoiled;
                outcomes[cell] = KNOWN | (bad ? SPOILED : orders.ends);
            }
            return outcomes[cell];
        }

        private void draftPair(int lock, int pair) {
            draft.renew(2);
            for (int p = 0; p < PLACES; p++) {
                draft.atFirst[p] = program.atFirst[p];
            }
            draftHand(0, lock, pair / RANGES);
            draftHand(1, lock, pair % RANGES);
        }

        private void draftHand(int hand, int lock, int range) {
            for (int i = 0; i < program.lengthOf(hand); i++) {
                if (i == FROM[range]) {
                    draft.append(hand, ENTER, lock, 0);
                }
                int cell = program.cellOf(hand, i);
                int kind = program.kindIn(cell);
                int n = program.numberIn(cell);
                int led = kind == JUMP ? ledTo(n, range) : n;
                draft.append(hand, kind, program.operandIn(cell), led);
                if (i == TO[range]) {
                    draft.append(hand, LEAVE, lock, 0);
                }
            }
        }

        /** Where a jump to n leads now: to the ENTER ahead of n, past the LEAVE. */
        private static int ledTo(int n, int range) {
            if (range == 0) {
                return n;
            }
            return n + (n > FROM[range] ? 1 : 0) + (n > TO[range] ? 1 : 0);
        }
    }

    /** A learner's answers to the questions 10 p + n. */
    private static final class Learner {
        private long asked = 0;
        private long agreed = 0;

        void clear() {
            asked = 0;
            agreed = 0;
        }

        void hear(int question, boolean yes) {
            long bit = 1L << question;
            asked |= bit;
            agreed = yes ? agreed | bit : agreed & ~bit;
        }

        int heard() {
            return Long.bitCount(asked);
        }

        int costBy(long ends) {
            return Long.bitCount((ends ^ agreed) & asked);
        }

        /** The pictures of the least cost, as bits. */
        int cheapest(long[] ends) {
            int least = QUESTIONS + 1;
            int bits = 0;
            for (int picture = 0; picture < ends.length; picture++) {
                int price = costBy(ends[picture]);
                if (price < least) {
                    least = price;
                    bits = 0;
                }
                if (price == least) {
                    bits |= 1 << picture;
                }
            }
            return bits;
        }

        int bestQuestion(long[] ends) {
            int pictures = cheapest(ends);
            int best = NONE;
            int least = PICTURES + 1;
            for (int question = 0; question < QUESTIONS; question++) {
                int part = greaterPart(ends, pictures, question);
                if (!says(asked, question) && part < least) {
                    least = part;
                    best = question;
                }
            }
            return best;
        }

        private static int greaterPart(long[] ends, int pictures, int question) {
            int yes = 0;
            for (int picture = 0; picture < ends.length; picture++) {
                if ((pictures >>> picture & 1) != 0 && says(ends[picture], question)) {
                    yes++;
                }
            }
            return Math.max(yes, Integer.bitCount(pictures) - yes);
        }
    }

    /** What a shelf holds. */
    private abstract static class Held {
    }

    /** A statement as it was when the shelf got it. */
    private static final class Statement extends Held {
        final int a;
        private final int kind;

        Statement(int kind, int a) {
            this.kind = kind;
            this.a = a;
        }

        int heaviness() {
            int sum = 1 + kind;
            if (operandOf(kind) == OF_PLACE) {
                sum += 10;
            }
            if (kind == LONG || kind == TEST) {
                sum += 100;
            }
            if (operandOf(kind) == OF_LOCK) {
                sum += 1000;
            }
            return kind == TEST || kind == WAIT ? 2 * sum : sum;
        }

        /** Throws the failure of a statement with a lock; others have none. */
        void fail() {
            if (operandOf(kind) == OF_LOCK) {
                throw new IllegalStateException("the lock isn't the hand's");
            }
        }
    }

    private static final class LongRow extends Held {
        final long[] cells;

        LongRow(int size) {
            cells = new long[Math.max(size, 0)];
        }
    }

    private static final class ShortRow extends Held {
        final short[] cells;

        ShortRow(int size) {
            cells = new short[Math.max(size, 0)];
        }
    }
}
