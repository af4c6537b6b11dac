/** Promises 7 to 9: start, go, see, with every kind of statement. */
public final class RunTest {
    private static final Check CHECK = new Check();

    public static void main(String[] args) {
        start();
        goAndRefusals();
        seeRefusals();
        plainKinds();
        jumps();
        longs();
        until();
        enterAndLeave();
        runIsTrue();
        failures();
        waitAndCall();
        meet();
        CHECK.end();
    }

    private static void goes(TurnSchool x, int... hands) {
        for (int hand : hands) {
            CHECK.due("go(" + hand + ")", x.go(hand), 1);
        }
    }

    private static void sees(TurnSchool x, int what, int i, int want) {
        CHECK.due("see(" + what + ", " + i + ")", x.see(what, i), want);
    }

    private static void start() {
        TurnSchool x = Puzzles.of(new int[] {0, 0, 0, 1, 0, 0, 4, 0, 0});
        CHECK.due("7: start()", x.start(), 0);
        goes(x, 0);
        CHECK.due("7: start()", x.start(), 1);
        CHECK.due("7: start()", x.start(), 0);
        goes(x, 0, 0, 0);
        CHECK.due("7: start() where the run came back", x.start(), 0);
    }

    private static void goAndRefusals() {
        TurnSchool x = Puzzles.of(new int[] {3, 0, 1}, new int[] {});
        CHECK.due("8: go(-1)", x.go(-1), -1);
        CHECK.due("8: go(2)", x.go(2), -1);
        CHECK.due("8: go(1) of one that ended", x.go(1), 0);
        goes(x, 0);
        CHECK.due("8: go(0) of one that ended", x.go(0), 0);
        sees(x, 0, 0, 10);
    }

    private static void seeRefusals() {
        TurnSchool x = Puzzles.of(new int[] {3, 0, 1}, new int[] {});
        sees(x, -1, 0, -1);
        sees(x, 7, 0, -1);
        for (int what = 0; what <= 4; what++) {
            sees(x, what, -1, -1);
            sees(x, what, 2, -1);
        }
        sees(x, 5, -1, -1);
        sees(x, 5, 4, -1);
        sees(x, 5, 3, 0);
        sees(x, 6, -1, -1);
        sees(x, 6, 3, -1);
        sees(x, 6, 2, -2);
    }

    private static void plainKinds() {
        TurnSchool x = Puzzles.of(new int[] {0, 2, 7, 1, 2, 0, 3, 0, 6, 2, 1, 0, 7, 2, 0});
        sees(x, 3, 0, 1);
        goes(x, 0);
        sees(x, 0, 0, 1);
        sees(x, 5, 2, 7);
        sees(x, 1, 0, 0);
        goes(x, 0);
        sees(x, 1, 0, 7);
        goes(x, 0);
        sees(x, 1, 0, 3);
        goes(x, 0);
        sees(x, 5, 1, 3);
        sees(x, 1, 0, 3);
        goes(x, 0);
        sees(x, 1, 0, 7);
        sees(x, 5, 2, 1);
        sees(x, 0, 0, 10);
        sees(x, 3, 0, 0);
    }

    private static void jumps() {
        TurnSchool x = Puzzles.of(new int[] {4, 0, 2, 3, 0, 5, 3, 0, 1, 4, 0, 0, 3, 0, 9, 4, 0, 8});
        goes(x, 0);
        sees(x, 0, 0, 2);
        goes(x, 0, 0);
        sees(x, 0, 0, 4);
        goes(x, 0);
        sees(x, 1, 0, 0);
        goes(x, 0);
        sees(x, 0, 0, 10);
        sees(x, 3, 0, 0);
        TurnSchool y = Puzzles.of(new int[] {4, 0, 1});
        goes(y, 0);
        sees(y, 0, 0, 10);
        CHECK.due("an end is one state, however far the jump", y.states(0), 2);
    }

    private static void longs() {
        TurnSchool x = Puzzles.of(new int[] {6, 1, 8, 3, 0, 0}, new int[] {0, 1, 0});
        x.value(1, 5);
        goes(x, 0);
        sees(x, 2, 0, 1);
        sees(x, 1, 0, 5);
        goes(x, 1);
        goes(x, 0);
        sees(x, 2, 0, 2);
        sees(x, 1, 0, 3);
        sees(x, 5, 1, 0);
        sees(x, 0, 0, 0);
        goes(x, 0);
        sees(x, 5, 1, 3);
        sees(x, 2, 0, 0);
        sees(x, 0, 0, 1);
    }

    private static void until() {
        TurnSchool x = Puzzles.of(new int[] {5, 3, 4}, new int[] {0, 3, 4});
        sees(x, 3, 0, 0);
        CHECK.due("go(0) ahead of its time", x.go(0), 0);
        goes(x, 1);
        sees(x, 3, 0, 1);
        goes(x, 0);
        sees(x, 0, 0, 10);
        sees(x, 5, 3, 4);
    }

    private static void enterAndLeave() {
        TurnSchool x = Puzzles.of(new int[] {8, 1, 0, 8, 1, 0}, new int[] {8, 1, 0, 9, 1, 0});
        goes(x, 1);
        sees(x, 6, 1, 1);
        CHECK.due("go(0) at a lock that is taken", x.go(0), 0);
        goes(x, 1);
        sees(x, 6, 1, -2);
        goes(x, 0);
        sees(x, 6, 1, 0);
        CHECK.due("go(0) at a lock of its own", x.go(0), 0);
        sees(x, 0, 0, 1);
    }

    /** The run goes on as in TRUE, whichever pictures were asked. */
    private static void runIsTrue() {
        TurnSchool x = Puzzles.of(new int[] {8, 0, 0, 6, 0, 1}, new int[] {8, 0, 0});
        for (int picture = 0; picture < 5; picture++) {
            CHECK.due("states(" + picture + ") is told", x.states(picture) > 0 ? 1 : 0, 1);
            x.start();
            goes(x, 0);
            sees(x, 3, 1, 0);
            goes(x, 0);
            sees(x, 2, 0, 1);
            goes(x, 0, 0);
            CHECK.due("the run is at a stuck state of TRUE", x.lead(x.nth(1, 1)), 0);
        }
    }

    private static void failures() {
        TurnSchool x = Puzzles.of(new int[] {8, 0, 0, 3, 0, 4, 9, 2, 0, 3, 0, 1}, new int[] {9, 0, 0});
        goes(x, 0, 0);
        sees(x, 3, 0, 1);
        goes(x, 0);
        sees(x, 0, 0, 11);
        sees(x, 1, 0, 4);
        sees(x, 2, 0, 0);
        sees(x, 3, 0, 0);
        sees(x, 6, 0, 0);
        sees(x, 6, 2, -2);
        CHECK.due("go(0) of one that failed", x.go(0), 0);
        goes(x, 1);
        sees(x, 0, 1, 11);
        sees(x, 6, 0, 0);
        TurnSchool y = Puzzles.of(new int[] {10, 1, 0});
        goes(y, 0);
        sees(y, 0, 0, 11);
        sees(y, 4, 0, 0);
        sees(y, 6, 1, -2);
    }

    private static void waitAndCall() {
        int[] sleeper = {8, 1, 0, 10, 1, 0, 9, 1, 0};
        TurnSchool x = Puzzles.of(sleeper, sleeper, new int[] {11, 0, 0, 11, 1, 0, 8, 1, 0, 11, 1, 0, 9, 1, 0, 11, 1, 0});
        goes(x, 1, 1, 0, 0);
        sees(x, 4, 0, 1);
        sees(x, 4, 1, 1);
        sees(x, 2, 0, 1);
        sees(x, 0, 0, 1);
        sees(x, 6, 1, -2);
        sees(x, 3, 0, 0);
        goes(x, 2);
        sees(x, 4, 0, 1);
        goes(x, 2);
        sees(x, 4, 0, 2);
        sees(x, 4, 1, 1);
        sees(x, 3, 0, 1);
        sees(x, 3, 1, 0);
        goes(x, 2);
        sees(x, 3, 0, 0);
        goes(x, 2);
        sees(x, 4, 1, 2);
        goes(x, 2);
        goes(x, 1);
        sees(x, 6, 1, 1);
        sees(x, 4, 1, 0);
        sees(x, 2, 1, 0);
        sees(x, 0, 1, 2);
        sees(x, 3, 0, 0);
        goes(x, 1, 0, 0, 2);
        sees(x, 0, 0, 10);
        sees(x, 0, 2, 10);
        // A woken hand waits for the lock, whoever has it.
        TurnSchool y = Puzzles.of(new int[] {8, 1, 0, 11, 1, 0, 9, 1, 0}, sleeper);
        goes(y, 1, 1, 0, 0);
        sees(y, 4, 1, 2);
        sees(y, 3, 1, 0);
        goes(y, 0);
        sees(y, 3, 1, 1);
    }

    private static void meet() {
        int[] row = {12, 0, 0, 3, 0, 1, 12, 0, 0};
        TurnSchool x = Puzzles.of(row, row, new int[] {3, 0, 1, 9, 0, 0});
        CHECK.due("go(0) ahead of the others", x.go(0), 0);
        goes(x, 2);
        sees(x, 3, 1, 0);
        goes(x, 2);
        sees(x, 0, 2, 11);
        sees(x, 3, 0, 1);
        goes(x, 1);
        sees(x, 0, 0, 1);
        sees(x, 0, 1, 1);
        sees(x, 0, 2, 11);
        goes(x, 0);
        sees(x, 3, 0, 0);
        goes(x, 1, 0);
        sees(x, 0, 0, 10);
        sees(x, 0, 1, 10);
        TurnSchool early = Puzzles.of(new int[] {3, 0, 1}, new int[] {12, 0, 0});
        sees(early, 3, 1, 0);
        goes(early, 0, 1);
        TurnSchool alone = Puzzles.of(new int[] {12, 0, 0});
        goes(alone, 0);
        sees(alone, 0, 0, 10);
    }
}
