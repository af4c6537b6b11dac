/** Promises 19 and 20: fix, fixed. */
public final class FixTest {
    private static final Check CHECK = new Check();

    public static void main(String[] args) {
        refusals();
        alreadyGood();
        counters();
        leastOfLikeOnes();
        jumps();
        stuckAndFailing();
        fixedStays();
        spent();
        CHECK.end();
    }

    private static void fix(TurnSchool x, int lock, int p, int n, int want) {
        CHECK.due("19: fix(" + lock + ", " + p + ", " + n + ")", x.fix(lock, p, n), want);
    }

    private static void fixed(TurnSchool x, int i0, int j0, int i1, int j1) {
        CHECK.due("20: fixed(0, 0)", x.fixed(0, 0), i0);
        CHECK.due("20: fixed(0, 1)", x.fixed(0, 1), j0);
        CHECK.due("20: fixed(1, 0)", x.fixed(1, 0), i1);
        CHECK.due("20: fixed(1, 1)", x.fixed(1, 1), j1);
    }

    private static void refusals() {
        TurnSchool x = Puzzles.of(new int[] {6, 0, 1}, new int[] {6, 0, 1});
        fix(x, -1, 0, 2, -1);
        fix(x, 3, 0, 2, -1);
        fix(x, 0, -1, 2, -1);
        fix(x, 0, 4, 2, -1);
        fix(x, 0, 0, -1, -1);
        fix(x, 0, 0, 10, -1);
        CHECK.due("20: fixed(0, 0)", x.fixed(0, 0), -3);
        fix(x, 2, 0, 2, 2);
        CHECK.due("20: fixed(-1, 0)", x.fixed(-1, 0), -1);
        CHECK.due("20: fixed(2, 0)", x.fixed(2, 0), -1);
        CHECK.due("20: fixed(0, -1)", x.fixed(0, -1), -1);
        CHECK.due("20: fixed(0, 2)", x.fixed(0, 2), -1);
        TurnSchool one = Puzzles.of(new int[] {6, 0, 1});
        fix(one, 0, 0, 1, -3);
        fix(one, 3, 0, 1, -1);
        TurnSchool three = Puzzles.of(new int[] {}, new int[] {}, new int[] {});
        fix(three, 0, 0, 0, -3);
        TurnSchool four = Puzzles.of(new int[] {3, 0, 0, 3, 0, 0, 3, 0, 0, 3, 0, 0}, new int[] {});
        fix(four, 0, 0, 0, 0);
        four.code(0, 3, 0, 0);
        fix(four, 0, 0, 0, -3);
    }

    private static void alreadyGood() {
        TurnSchool x = Puzzles.of(new int[] {0, 1, 4}, new int[] {3, 0, 1});
        fix(x, 0, 1, 4, 0);
        fixed(x, -2, -2, -2, -2);
        fix(x, 0, 1, 5, -2);
        TurnSchool none = Puzzles.of(new int[] {}, new int[] {});
        fix(none, 0, 0, 0, 0);
        fix(none, 0, 0, 1, -2);
        none.value(0, 1);
        fix(none, 0, 0, 1, 0);
        // No end at all: all ends have n, and nothing is stuck.
        TurnSchool loop = Puzzles.of(new int[] {4, 0, 0}, new int[] {});
        fix(loop, 0, 3, 9, 0);
    }

    private static void counters() {
        int[] add = {1, 0, 0, 3, 0, 1, 2, 0, 0};
        TurnSchool x = Puzzles.of(add, add);
        fix(x, 1, 0, 2, 6);
        fixed(x, 0, 2, 0, 2);
        int[] whole = {1, 0, 0, 3, 0, 1, 3, 0, 0, 2, 0, 0};
        TurnSchool all = Puzzles.of(whole, whole);
        fix(all, 0, 0, 2, 8);
        fixed(all, 0, 3, 0, 3);
        int[] late = {3, 0, 5, 1, 0, 0, 3, 0, 1, 2, 0, 0};
        TurnSchool y = Puzzles.of(late, new int[] {3, 0, 5, 6, 0, 1});
        fix(y, 0, 0, 2, 4);
        fixed(y, 1, 3, 1, 1);
        fix(y, 0, 0, 1, -2);
        fixed(y, 1, 3, 1, 1);
    }

    private static void leastOfLikeOnes() {
        // LONG against two writes that must not come between: the wish is 2 at place 0.
        TurnSchool x = Puzzles.of(new int[] {6, 0, 1, 6, 0, 1}, new int[] {3, 0, 0, 6, 0, 0});
        fix(x, 0, 0, 2, 3);
        fixed(x, 0, 1, 1, 1);
    }

    private static void jumps() {
        int[] add = {1, 0, 0, 3, 0, 1, 2, 0, 0};
        // The JUMP leads ahead of the ENTER: else LEAVE would fail.
        TurnSchool into = Puzzles.of(add, new int[] {4, 0, 1, 6, 0, 1});
        fix(into, 0, 0, 2, 4);
        fixed(into, 0, 2, 1, 1);
        // The JUMP behind the last one passes the LEAVE by: the lock is never left.
        TurnSchool out = Puzzles.of(add, new int[] {6, 0, 1, 1, 3, 0, 4, 0, 8});
        fix(out, 0, 0, 2, 4);
        fixed(out, 0, 2, 0, 0);
        // A JUMP to its own statement, that is never taken, and one over a SET.
        TurnSchool over = Puzzles.of(new int[] {4, 0, 2, 0, 0, 9, 6, 0, 1, 4, 0, 3}, add);
        fix(over, 0, 0, 2, 4);
        fixed(over, 2, 2, 0, 2);
    }

    private static void stuckAndFailing() {
        // Opposite orders of two locks: a third one round both makes it good.
        int[] one = {8, 0, 0, 8, 1, 0, 9, 1, 0, 9, 0, 0};
        int[] other = {8, 1, 0, 8, 0, 0, 9, 0, 0, 9, 1, 0};
        TurnSchool x = Puzzles.of(one, other);
        fix(x, 2, 0, 0, 4);
        fixed(x, 0, 1, 0, 1);
        fix(x, 0, 0, 0, -2);
        fixed(x, 0, 1, 0, 1);
        TurnSchool failing = Puzzles.of(new int[] {9, 2, 0}, new int[] {});
        fix(failing, 0, 0, 0, -2);
        // The own LEAVE ends what the ENTER began, then the one that was put in fails.
        fix(failing, 2, 0, 0, -2);
        TurnSchool stuck = Puzzles.of(new int[] {5, 0, 1}, new int[] {});
        fix(stuck, 0, 0, 0, -2);
    }

    private static void fixedStays() {
        TurnSchool x = Puzzles.of(new int[] {6, 0, 1}, new int[] {6, 0, 1});
        fix(x, 0, 0, 2, 2);
        x.puzzle(2);
        fixed(x, 0, 0, 0, 0);
        fix(x, 0, 0, 5, -2);
        fixed(x, 0, 0, 0, 0);
        fix(x, 0, 0, 0, 0);
        fixed(x, -2, -2, -2, -2);
    }

    private static void spent() {
        // Both hands count round and round: 50 x 50 states. With its JUMP within,
        // hand 1 waits for a lock of its own, and hand 0 goes on: nothing is STUCK.
        TurnSchool x = Puzzles.of(new int[] {6, 0, 1, 1, 3, 0, 4, 0, 0}, new int[] {6, 1, 1, 1, 3, 0, 4, 0, 0});
        CHECK.due("states(0)", x.states(0), -5);
        fix(x, 0, 2, 0, 1);
        fixed(x, -2, -2, 2, 2);
    }
}
