/** Promises 10 to 18: states, count, nth, way, step, lead, race, always, can. */
public final class OrdersTest {
    private static final Check CHECK = new Check();

    public static void main(String[] args) {
        states();
        pictures();
        spent();
        ends();
        comingBack();
        ways();
        lead();
        races();
        always();
        can();
        CHECK.end();
    }

    private static void states() {
        TurnSchool x = Puzzles.full();
        CHECK.due("10: states(0) at the limit", x.states(0), 2000);
        CHECK.due("10: states(2)", x.states(2), 41);
        CHECK.due("10: states(3)", x.states(3), 9 * 4 * 8);
        CHECK.due("10: states(4)", x.states(4), 2000);
        CHECK.due("10: states(-1)", x.states(-1), -1);
        CHECK.due("10: states(5)", x.states(5), -1);
        CHECK.due("11: count(0)", x.count(0), 1);
        CHECK.due("12: nth(0, 0)", x.nth(0, 0), 1999);
        CHECK.due("13: way(1999)", x.way(1999), 40);
        CHECK.due("13: way(2000)", x.way(2000), -1);
        CHECK.due("14: step(1999, 0)", x.step(1999, 0), 0);
        CHECK.due("14: step(1999, 24)", x.step(1999, 24), 1);
        CHECK.due("14: step(1999, 39)", x.step(1999, 39), 2);
        CHECK.due("10: states(0) of a new object", new TurnSchool().states(0), 1);
    }

    private static void pictures() {
        // WHOLE: each hand to its end, in both orders, but for the first state.
        TurnSchool x = Puzzles.of(new int[] {3, 0, 1, 3, 0, 1}, new int[] {3, 0, 1, 3, 0, 1});
        CHECK.due("10: states(0)", x.states(0), 9);
        CHECK.due("10: states(1)", x.states(1), 9);
        CHECK.due("10: states(2)", x.states(2), 5);
        // States tell the hand that stepped last: a step back to the start is another state.
        TurnSchool loop = Puzzles.of(new int[] {4, 0, 0});
        CHECK.due("10: states(0) of a loop", loop.states(0), 1);
        CHECK.due("10: states(1) of a loop", loop.states(1), 2);
        CHECK.due("10: states(2) of a loop", loop.states(2), 2);
        // TURNS passes over a hand that can't step, and gives it the turn as soon as it can.
        TurnSchool turns = Puzzles.of(new int[] {5, 0, 1, 0, 1, 5}, new int[] {0, 0, 1, 0, 1, 6});
        CHECK.due("10: states(2)", turns.states(2), 5);
        CHECK.due("18: can(2, 1, 5)", turns.can(2, 1, 5), 1);
        CHECK.due("18: can(2, 1, 6)", turns.can(2, 1, 6), 0);
        CHECK.due("18: can(1, 1, 5)", turns.can(1, 1, 5), 1);
        CHECK.due("18: can(1, 1, 6)", turns.can(1, 1, 6), 0);
        CHECK.due("18: can(0, 1, 6)", turns.can(0, 1, 6), 1);
        // OPEN: the lock goes to whoever enters; the other one fails at its LEAVE.
        TurnSchool open = Puzzles.of(new int[] {8, 0, 0, 9, 0, 0, 0, 0, 3}, new int[] {8, 0, 0, 9, 0, 0});
        CHECK.due("18: can(0, 0, 0)", open.can(0, 0, 0), 0);
        CHECK.due("18: can(4, 0, 0)", open.can(4, 0, 0), 1);
        TurnSchool own = Puzzles.of(new int[] {8, 0, 0, 8, 0, 0});
        CHECK.due("11: count(1)", own.count(1), 1);
        CHECK.due("10: states(4)", own.states(4), 3);
        // OPEN: a woken hand goes on though the lock is taken; a sleeping one doesn't.
        TurnSchool woken = Puzzles.of(new int[] {8, 0, 0, 10, 0, 0, 0, 0, 9},
            new int[] {5, 1, 1, 8, 0, 0, 11, 0, 0}, new int[] {0, 1, 1});
        CHECK.due("18: can(0, 0, 9)", woken.can(0, 0, 9), 0);
        CHECK.due("18: can(4, 0, 9)", woken.can(4, 0, 9), 1);
    }

    private static void spent() {
        TurnSchool x = Puzzles.spent();
        CHECK.due("10: states(0)", x.states(0), -5);
        CHECK.due("10: states(2)", x.states(2), 42);
        CHECK.due("10: states(4)", x.states(4), -5);
        CHECK.due("11: count(0)", x.count(0), -5);
        CHECK.due("11: count(3)", x.count(3), -1);
        CHECK.due("12: nth(0, 0)", x.nth(0, 0), -5);
        CHECK.due("12: nth(0, 5000)", x.nth(0, 5000), -5);
        CHECK.due("12: nth(0, -1)", x.nth(0, -1), -1);
        CHECK.due("12: nth(3, 0)", x.nth(3, 0), -1);
        CHECK.due("13: way(0)", x.way(0), -5);
        CHECK.due("13: way(-1)", x.way(-1), -1);
        CHECK.due("13: way(2000)", x.way(2000), -5);
        CHECK.due("14: step(0, 0)", x.step(0, 0), -5);
        CHECK.due("14: step(9999, 0)", x.step(9999, 0), -5);
        CHECK.due("14: step(-1, 0)", x.step(-1, 0), -1);
        CHECK.due("14: step(0, -1)", x.step(0, -1), -1);
        CHECK.due("15: lead(0)", x.lead(0), -5);
        CHECK.due("15: lead(-1)", x.lead(-1), -1);
        CHECK.due("15: lead(2000)", x.lead(2000), -5);
        CHECK.due("16: race(0, 1)", x.race(0, 1), -5);
        CHECK.due("16: race(1, 1)", x.race(1, 1), -1);
        CHECK.due("17: always(0, 0, 0, 0)", x.always(0, 0, 0, 0), -5);
        CHECK.due("17: always(0, 8, 0, 0)", x.always(0, 8, 0, 0), -1);
        CHECK.due("18: can(0, 0, 0)", x.can(0, 0, 0), -5);
        CHECK.due("18: can(3, 0, 0)", x.can(3, 0, 0), 1);
        CHECK.due("18: can(0, 4, 0)", x.can(0, 4, 0), -1);
        CHECK.due("the run goes on where all orders are spent", x.go(2), 1);
        CHECK.due("uncode(2)", x.uncode(2), 7);
        CHECK.due("10: states(0) after uncode", x.states(0), 2000);
    }

    private static void ends() {
        TurnSchool x = Puzzles.of(new int[] {6, 0, 1}, new int[] {6, 0, 1});
        CHECK.due("11: count(0)", x.count(0), 3);
        CHECK.due("11: count(1)", x.count(1), 0);
        CHECK.due("11: count(2)", x.count(2), 0);
        CHECK.due("11: count(-1)", x.count(-1), -1);
        CHECK.due("11: count(3)", x.count(3), -1);
        CHECK.due("12: nth(0, 2)", x.nth(0, 2), 21);
        CHECK.due("12: nth(0, 3)", x.nth(0, 3), -3);
        CHECK.due("12: nth(1, 0)", x.nth(1, 0), -3);
        CHECK.due("12: nth(0, -1)", x.nth(0, -1), -1);
        CHECK.due("12: nth(3, 0)", x.nth(3, 0), -1);
        CHECK.due("12: nth(-1, 0)", x.nth(-1, 0), -1);
        // A hand that failed makes an end, not a stuck state.
        TurnSchool failing = Puzzles.of(new int[] {9, 0, 0, 3, 0, 1});
        CHECK.due("11: count(0)", failing.count(0), 1);
        CHECK.due("11: count(1)", failing.count(1), 0);
        TurnSchool stuck = Puzzles.of(new int[] {5, 0, 1}, new int[] {});
        CHECK.due("11: count(0)", stuck.count(0), 0);
        CHECK.due("11: count(1)", stuck.count(1), 1);
        CHECK.due("12: nth(1, 0)", stuck.nth(1, 0), 0);
        // A failure is one state, wherever the hand was when it failed.
        TurnSchool two = Puzzles.of(new int[] {1, 0, 0, 4, 0, 4, 1, 1, 0, 9, 0, 0, 9, 1, 0},
            new int[] {0, 0, 1});
        CHECK.due("11: count(0)", two.count(0), 1);
    }

    private static void comingBack() {
        TurnSchool self = Puzzles.of(new int[] {4, 0, 0});
        CHECK.due("11: count(2) of a step to itself", self.count(2), 1);
        CHECK.due("12: nth(2, 0)", self.nth(2, 0), 0);
        CHECK.due("12: nth(2, 1)", self.nth(2, 1), -3);
        CHECK.due("11: count(1)", self.count(1), 0);
        // State 0 leads into two loops, joined by a step of the other hand: neither it nor the end.
        TurnSchool x = Puzzles.of(new int[] {3, 0, 0, 5, 0, 0, 4, 0, 1}, new int[] {0, 0, 1});
        // 0: (0,-) 1: (1,-) 2: (0,e) 3: (2,-) 4: (1,e) 5: (2,e); 1 and 3 make a loop; 5 leads to 4, stuck.
        CHECK.due("10: states(0)", x.states(0), 6);
        CHECK.due("11: count(2)", x.count(2), 2);
        CHECK.due("12: nth(2, 0)", x.nth(2, 0), 1);
        CHECK.due("12: nth(2, 1)", x.nth(2, 1), 3);
        CHECK.due("12: nth(1, 0)", x.nth(1, 0), 4);
        CHECK.due("11: count(1)", x.count(1), 1);
        // A loop within a loop, found anew when the puzzle is another one.
        TurnSchool y = Puzzles.of(new int[] {1, 1, 0, 4, 0, 0, 4, 0, 1});
        CHECK.due("11: count(2)", y.count(2), 2);
        y.value(1, 1);
        CHECK.due("11: count(2) of another puzzle", y.count(2), 0);
        y.puzzle(2);
        y.code(0, 4, 0, 0);
        y.code(1, 3, 0, 1);
        y.code(1, 3, 0, 9);
        y.code(1, 4, 0, 0);
        CHECK.due("11: count(2) of yet another", y.count(2), 3);
        CHECK.due("10: states(0)", y.states(0), 3);
        // A long path back: ten rounds of eleven steps, until all places are 0 again.
        TurnSchool far = Puzzles.of(new int[] {6, 0, 1, 6, 1, 3, 6, 2, 7, 1, 3, 0, 4, 0, 0});
        CHECK.due("10: states(0)", far.states(0), 110);
        CHECK.due("11: count(2)", far.count(2), 110);
    }

    private static void ways() {
        TurnSchool x = Puzzles.of(new int[] {3, 0, 1, 3, 0, 1}, new int[] {3, 0, 1, 3, 0, 1});
        CHECK.due("13: way(0)", x.way(0), 0);
        CHECK.due("14: step(0, 0)", x.step(0, 0), -3);
        CHECK.due("13: way(8)", x.way(8), 4);
        int[] hands = {0, 0, 1, 1};
        for (int k = 0; k < 4; k++) {
            CHECK.due("14: step(8, " + k + ")", x.step(8, k), hands[k]);
        }
        CHECK.due("14: step(8, 4)", x.step(8, 4), -3);
        CHECK.due("14: step(8, -1)", x.step(8, -1), -1);
        CHECK.due("14: step(9, 0)", x.step(9, 0), -1);
        CHECK.due("14: step(9, -1)", x.step(9, -1), -1);
        CHECK.due("13: way(9)", x.way(9), -1);
        CHECK.due("13: way(-1)", x.way(-1), -1);
        // A MEET is passed by the least hand where any could do it.
        TurnSchool meet = Puzzles.of(new int[] {12, 0, 0}, new int[] {12, 0, 0});
        CHECK.due("10: states(0)", meet.states(0), 2);
        CHECK.due("14: step(1, 0)", meet.step(1, 0), 0);
    }

    private static void lead() {
        TurnSchool x = Puzzles.of(new int[] {6, 0, 1}, new int[] {6, 0, 1});
        CHECK.due("15: lead(0)", x.lead(0), 0);
        CHECK.due("15: lead(5)", x.lead(5), 1);
        CHECK.due("15: lead(5)", x.lead(5), 0);
        CHECK.due("see(2, 1)", x.see(2, 1), 2);
        CHECK.due("see(2, 0)", x.see(2, 0), 0);
        CHECK.due("15: lead(22)", x.lead(22), -1);
        CHECK.due("15: lead(-1)", x.lead(-1), -1);
        CHECK.due("see(2, 1)", x.see(2, 1), 2);
        CHECK.due("go(1)", x.go(1), 1);
        CHECK.due("see(5, 0)", x.see(5, 0), 1);
        CHECK.due("start()", x.start(), 1);
        CHECK.due("go(1)", x.go(1), 1);
        CHECK.due("15: lead(2) where the run is", x.lead(2), 0);
    }

    private static int raceOf(int[] first, int[] second) {
        return Puzzles.of(first, second).race(0, 1);
    }

    private static void races() {
        int[] set = {0, 1, 5};
        int[] take = {1, 1, 0};
        int[] give = {2, 1, 0};
        int[] until = {5, 1, 0};
        int[] never = {5, 1, 9};
        int[] test = {7, 1, 0};
        int[] longOne = {6, 1, 1};
        CHECK.due("16: SET and TAKE", raceOf(set, take), 0);
        CHECK.due("16: TAKE and GIVE", raceOf(take, give), 0);
        CHECK.due("16: TAKE and TAKE", raceOf(take, take), -2);
        CHECK.due("16: TAKE and UNTIL", raceOf(take, until), -2);
        CHECK.due("16: SET and UNTIL", raceOf(set, until), 0);
        CHECK.due("16: SET and an UNTIL that can't step", raceOf(set, never), -2);
        CHECK.due("16: TEST and TEST", raceOf(test, test), 0);
        CHECK.due("16: TAKE and TEST", raceOf(take, test), 0);
        CHECK.due("16: SET and LONG", raceOf(set, longOne), 0);
        CHECK.due("16: LONG and TAKE", raceOf(longOne, take), 3);
        CHECK.due("16: place 0", raceOf(new int[] {0, 0, 1}, new int[] {1, 0, 0}), 0);
        CHECK.due("16: other places", raceOf(set, new int[] {1, 2, 0}), -2);
        CHECK.due("16: no places", raceOf(new int[] {3, 1, 0}, new int[] {4, 1, 0}), -2);
        CHECK.due("16: a lock is no place", raceOf(new int[] {8, 1, 0}, set), -2);
        // Behind the lock only one hand is there at a time.
        int[] locked = {8, 0, 0, 6, 0, 1, 9, 0, 0};
        CHECK.due("16: locked", raceOf(locked, locked), -2);
        TurnSchool x = Puzzles.of(set, new int[] {}, take);
        CHECK.due("16: race(2, 0)", x.race(2, 0), 0);
        CHECK.due("16: race(0, 1)", x.race(0, 1), -2);
        CHECK.due("16: race(0, 3)", x.race(0, 3), -1);
        CHECK.due("16: race(3, 0)", x.race(3, 0), -1);
        CHECK.due("16: race(-1, 0)", x.race(-1, 0), -1);
        CHECK.due("16: race(0, -1)", x.race(0, -1), -1);
        CHECK.due("16: race(2, 2)", x.race(2, 2), -1);
    }

    private static void always() {
        TurnSchool x = Puzzles.of(new int[] {0, 0, 3, 6, 0, 1, 3, 0, 0}, new int[] {});
        CHECK.due("17: always(0, 0, 0, 0)", x.always(0, 0, 0, 0), -2);
        CHECK.due("17: always(0, 0, 0, 1)", x.always(0, 0, 0, 1), 0);
        CHECK.due("17: always(0, 1, 0, 3)", x.always(0, 1, 0, 3), -2);
        CHECK.due("17: always(0, 1, 0, 4)", x.always(0, 1, 0, 4), 1);
        CHECK.due("17: always(0, 2, 0, 4)", x.always(0, 2, 0, 4), -2);
        CHECK.due("17: always(0, 2, 0, 3)", x.always(0, 2, 0, 3), 4);
        CHECK.due("17: always(0, 3, 0, 0)", x.always(0, 3, 0, 0), -1);
        CHECK.due("17: always(0, -1, 0, 0)", x.always(0, -1, 0, 0), -1);
        CHECK.due("17: always(1, 0, 0, 0)", x.always(1, 0, 0, 0), -1);
        CHECK.due("17: always(2, 0, 0, 0)", x.always(2, 0, 0, 0), -1);
        CHECK.due("17: always(0, 0, 4, 0)", x.always(0, 0, 4, 0), -1);
        CHECK.due("17: always(0, 0, -1, 0)", x.always(0, 0, -1, 0), -1);
        CHECK.due("17: always(0, 0, 0, 10)", x.always(0, 0, 0, 10), -1);
        CHECK.due("17: always(0, 0, 0, -1)", x.always(0, 0, 0, -1), -1);
        // Place 0 changes only while hand 0 sleeps: a step of its statement is made then.
        TurnSchool y = Puzzles.of(new int[] {8, 0, 0, 0, 1, 1, 10, 0, 0},
            new int[] {5, 1, 1, 8, 0, 0, 0, 0, 7});
        CHECK.due("11: count(1)", y.count(1), 1);
        CHECK.due("17: always(0, 2, 0, 0)", y.always(0, 2, 0, 0), -2);
        CHECK.due("17: always(1, 2, 0, 0)", y.always(1, 2, 0, 0), -2);
    }

    private static void can() {
        TurnSchool x = Puzzles.of(new int[] {6, 0, 1}, new int[] {6, 0, 1});
        CHECK.due("18: can(0, 0, 0)", x.can(0, 0, 0), 0);
        CHECK.due("18: can(0, 0, 1)", x.can(0, 0, 1), 1);
        CHECK.due("18: can(0, 3, 0)", x.can(0, 3, 0), 1);
        CHECK.due("18: can(1, 0, 2)", x.can(1, 0, 2), 1);
        CHECK.due("18: can(2, 0, 1)", x.can(2, 0, 1), 1);
        CHECK.due("18: can(3, 0, 2)", x.can(3, 0, 2), 1);
        CHECK.due("18: can(3, 0, 1)", x.can(3, 0, 1), 0);
        CHECK.due("18: can(4, 0, 1)", x.can(4, 0, 1), 1);
        CHECK.due("18: can(-1, 0, 0)", x.can(-1, 0, 0), -1);
        CHECK.due("18: can(5, 0, 0)", x.can(5, 0, 0), -1);
        CHECK.due("18: can(0, -1, 0)", x.can(0, -1, 0), -1);
        CHECK.due("18: can(0, 4, 0)", x.can(0, 4, 0), -1);
        CHECK.due("18: can(0, 0, -1)", x.can(0, 0, -1), -1);
        CHECK.due("18: can(0, 0, 10)", x.can(0, 0, 10), -1);
        CHECK.due("value(0, 8)", x.value(0, 8), 0);
        CHECK.due("18: can(0, 0, 0) from 8", x.can(0, 0, 0), 1);
    }
}
