/** Boundary cases of promises 7 to 9 and of the kinds of statements, a sentence each. */
public final class EdgeRunTest {
    private static final Check CHECK = new Check();

    public static void main(String[] args) {
        startWhereItWas();
        goOfHands();
        goThatCant();
        seeOutOfRange();
        seeWhereAHandIs();
        seeOfPlacesAndLocks();
        atFirst();
        setZeroAndNine();
        takeAndGive();
        addModuloTen();
        jumpIfZeroOnly();
        jumpBackAndToItself();
        jumpBehindTheLast();
        jumpBeyondTheLast();
        jumpWhereThereAreEight();
        untilIsThatNumber();
        longIsThreeSteps();
        longModuloTen();
        longReadsFirstAndWritesLast();
        testTakesAndWritesOne();
        enterOnlyAFreeLock();
        leaveOfOwnLock();
        leaveOfAnothersOrFreeLockFails();
        waitFreesAndSleeps();
        waitOfAnothersOrFreeLockFails();
        wokenAndFree();
        callWithoutSleepers();
        callOfTheLeastSleeper();
        callOfOwnOrNoLock();
        callWakesNotWhoSleepsElsewhere();
        meetAlone();
        meetOfAll();
        meetWithEndedAndFailed();
        meetWithASleeper();
        meetsBehindOneAnother();
        failedDoesNothing();
        failedKeepsLocks();
        endedKeepsLocks();
        CHECK.end();
    }

    private static Script script(String sentence, String... hands) {
        return new Script(CHECK, sentence, hands);
    }

    // Promise 7

    private static void startWhereItWas() {
        script("7: 1, or 0 if it was", "ADD 1, ADD 1").due(
            "start = 0; go 0 = 1; start = 1; start = 0; go 0 = 1; go 0 = 1; go 0 = 0; start = 1; see 0 0 = 0; see 1 0 = 0");
        script("7: the run came back by itself", "JUMP 0").due("go 0 = 1; start = 0");
        script("7: the run came back with its register at 0", "ADD 1, ADD 1, TAKE 1, JUMP 0")
            .due("go 0 = 1; go 0 = 1; go 0 = 1; go 0 = 1; see 0 0 = 0; see 1 0 = 0; start = 0");
        script("7: another number of a place is another state", "TEST 0, TAKE 1, JUMP 0")
            .due("go 0 = 1; go 0 = 1; go 0 = 1; see 0 0 = 0; see 1 0 = 0; start = 1; see 5 0 = 0");
        script("7: a step of a statement made", "LONG 0 0").due("go 0 = 1; see 0 0 = 0; start = 1; see 2 0 = 0");
        script("7: a lock that is taken", "ENTER 0, JUMP 0").due("go 0 = 1; go 0 = 1; see 0 0 = 0; start = 1; see 6 0 = -2");
    }

    // Promise 8

    private static void goOfHands() {
        script("8: -1", "ADD 1", "ADD 1").due(
            "go -1 = -1; go 2 = -1; go 3 = -1; go MIN = -1; go MAX = -1; see 0 0 = 0; see 0 1 = 0; go 1 = 1; see 0 1 = 10;"
            + "see 0 0 = 0; go 0 = 1; go 0 = 0; go 1 = 0");
    }

    private static void goThatCant() {
        script("8: 0 if it can't", "UNTIL 0 1", "", "LEAVE 0").due(
            "go 0 = 0; start = 0; go 1 = 0; start = 0; go 2 = 1; go 2 = 0; see 0 2 = 11; see 0 0 = 0; see 0 1 = 10");
    }

    // Promise 9

    private static void seeOutOfRange() {
        script("9: -1", "ADD 1", "ADD 1").due(
            "see -1 0 = -1; see 7 0 = -1; see MIN 0 = -1; see MAX 0 = -1;"
            + "see 0 -1 = -1; see 0 2 = -1; see 1 -1 = -1; see 1 2 = -1; see 2 -1 = -1; see 2 2 = -1;"
            + "see 3 -1 = -1; see 3 2 = -1; see 4 -1 = -1; see 4 2 = -1; see 4 MAX = -1;"
            + "see 5 -1 = -1; see 5 4 = -1; see 5 MIN = -1; see 5 MAX = -1;"
            + "see 6 -1 = -1; see 6 3 = -1; see 6 MIN = -1; see 6 MAX = -1");
        script("9: places and locks don't depend on the hands").due("see 5 3 = 0; see 6 2 = -2; see 0 1 = -1");
    }

    private static void seeWhereAHandIs() {
        Script x = script("9: the statement it is at, 10 when it has ended", Script.times(8, "MEET"));
        for (int i = 0; i < 8; i++) {
            x.due("see 0 0 = " + i + "; see 3 0 = 1; go 0 = 1");
        }
        x.due("see 0 0 = 10; see 3 0 = 0; go 0 = 0; see 0 0 = 10");
        script("9: 11, wherever it failed", "LEAVE 0", "ADD 3, LEAVE 0").due(
            "go 0 = 1; see 0 0 = 11; see 0 1 = 0; go 1 = 1; go 1 = 1; see 0 1 = 11; see 1 1 = 3; see 2 1 = 0; see 3 1 = 0; see 4 1 = 0");
    }

    private static void seeOfPlacesAndLocks() {
        script("9: of each place and each lock", "SET 0 1, SET 1 2, SET 2 3, SET 3 4, ENTER 0", "ENTER 1, ENTER 2")
            .due("go 0 = 1; go 0 = 1; go 0 = 1; go 0 = 1; see 5 0 = 1; see 5 1 = 2; see 5 2 = 3; see 5 3 = 4;"
                + "see 6 0 = -2; go 0 = 1; go 1 = 1; go 1 = 1; see 6 0 = 0; see 6 1 = 1; see 6 2 = 1");
    }

    // Terms: what is at first, and the kinds

    private static void atFirst() {
        script("at first", "ADD 1", "", "LONG 0 1").due(
            "see 0 0 = 0; see 0 1 = 10; see 0 2 = 0; see 1 0 = 0; see 1 2 = 0; see 2 2 = 0; see 4 0 = 0;"
            + "see 3 0 = 1; see 3 1 = 0; see 3 2 = 1; see 6 0 = -2; see 6 1 = -2; see 6 2 = -2; see 5 3 = 0");
    }

    private static void setZeroAndNine() {
        script("SET: place p becomes n", "SET 0 9, SET 3 9, SET 0 0, ADD 5, SET 3 0").due(
            "go 0 = 1; see 5 0 = 9; see 5 1 = 0; go 0 = 1; see 5 3 = 9; see 5 2 = 0; go 0 = 1; see 5 0 = 0; see 5 3 = 9;"
            + "go 0 = 1; go 0 = 1; see 5 3 = 0; see 1 0 = 5; see 0 0 = 10");
    }

    private static void takeAndGive() {
        script("TAKE and GIVE, of 9 and of 0", "TAKE 0, GIVE 3, TAKE 1, GIVE 0").after("value 0 9").due(
            "go 0 = 1; see 1 0 = 9; see 5 0 = 9; go 0 = 1; see 5 3 = 9; see 1 0 = 9; see 5 0 = 9; go 0 = 1; see 1 0 = 0;"
            + "go 0 = 1; see 5 0 = 0; see 5 3 = 9");
        script("each hand has a register", "ADD 4, GIVE 0", "ADD 7, GIVE 0", "GIVE 0").due(
            "go 0 = 1; go 1 = 1; see 1 0 = 4; see 1 1 = 7; see 1 2 = 0; go 1 = 1; see 5 0 = 7; go 0 = 1; see 5 0 = 4;"
            + "go 2 = 1; see 5 0 = 0; see 1 0 = 4; see 1 1 = 7");
    }

    private static void addModuloTen() {
        script("ADD: n more, modulo 10", "ADD 9, ADD 0, ADD 1, ADD 5, ADD 4, ADD 9, ADD 2, ADD 9").due(
            "go 0 = 1; see 1 0 = 9; go 0 = 1; see 1 0 = 9; go 0 = 1; see 1 0 = 0; go 0 = 1; see 1 0 = 5; go 0 = 1; see 1 0 = 9;"
            + "go 0 = 1; see 1 0 = 8; go 0 = 1; see 1 0 = 0; go 0 = 1; see 1 0 = 9");
    }

    private static void jumpIfZeroOnly() {
        script("JUMP: if the register is 0", "JUMP 2, SET 0 1, ADD 1, JUMP 5, SET 0 2, SET 0 3").due(
            "go 0 = 1; see 0 0 = 2; see 5 0 = 0; go 0 = 1; go 0 = 1; see 0 0 = 4; go 0 = 1; see 5 0 = 2");
        script("JUMP: not if it is 9", "ADD 9, JUMP 0").due("go 0 = 1; go 0 = 1; see 0 0 = 10");
        script("JUMP: a 10 is a 0", "ADD 9, ADD 1, JUMP 0").due("go 0 = 1; go 0 = 1; go 0 = 1; see 0 0 = 0");
        script("JUMP of its own register", "ADD 1, JUMP 0", "ADD 0, JUMP 0").due(
            "go 0 = 1; go 1 = 1; go 0 = 1; go 1 = 1; see 0 0 = 10; see 0 1 = 0");
    }

    private static void jumpBackAndToItself() {
        script("JUMP to itself", "ADD 0, JUMP 1").due("go 0 = 1; go 0 = 1; see 0 0 = 1; see 3 0 = 1; go 0 = 1; see 0 0 = 1");
        script("JUMP to the first and to the last", "JUMP 2, ADD 1, JUMP 0").due(
            "go 0 = 1; see 0 0 = 2; go 0 = 1; see 0 0 = 0; go 0 = 1; see 0 0 = 2");
        script("JUMP to the next", "JUMP 1, ADD 1").due("go 0 = 1; see 0 0 = 1");
    }

    private static void jumpBehindTheLast() {
        script("JUMP behind the last statement ends", "JUMP 2, ADD 1").due(
            "go 0 = 1; see 0 0 = 10; see 3 0 = 0; go 0 = 0; states 0 = 2; count 0 = 1; nth 0 0 = 1");
        script("JUMP that isn't taken, as the last statement", "ADD 1, JUMP 0").due("go 0 = 1; go 0 = 1; see 0 0 = 10");
    }

    private static void jumpBeyondTheLast() {
        for (int n = 2; n <= 8; n++) {
            script("JUMP beyond the last one ends", "JUMP " + n).due(
                "go 0 = 1; see 0 0 = 10; see 1 0 = 0; see 2 0 = 0; see 3 0 = 0; see 4 0 = 0; go 0 = 0; states 0 = 2; count 0 = 1");
        }
        script("ended by a jump or by the last one: one state", "TAKE 0, JUMP 8, TAKE 1", "SET 0 1").due(
            "states 0 = 8; count 0 = 1");
        script("a statement that comes is jumped to", "JUMP 2").due(
            "code 0 3 0 1 = 1; code 0 3 0 5 = 2; go 0 = 1; see 0 0 = 2; uncode 0 = 2; go 0 = 1; see 0 0 = 10");
        script("each hand has its own length", "JUMP 2", "JUMP 2, ADD 1, ADD 2").due(
            "go 0 = 1; go 1 = 1; see 0 0 = 10; see 0 1 = 2");
    }

    private static void jumpWhereThereAreEight() {
        String seven = Script.times(7, "ADD 0");
        script("JUMP 8 behind the eighth", seven + ", JUMP 8").after("go 0; go 0; go 0; go 0; go 0; go 0; go 0").due(
            "see 0 0 = 7; go 0 = 1; see 0 0 = 10");
        script("JUMP 8 over all eight", "JUMP 8, " + seven).due("go 0 = 1; see 0 0 = 10");
        script("JUMP 7 to the eighth", "JUMP 7, " + seven).due("go 0 = 1; see 0 0 = 7; go 0 = 1; see 0 0 = 10");
    }

    private static void untilIsThatNumber() {
        script("UNTIL: only when place p is n", "UNTIL 0 0, UNTIL 3 9, UNTIL 0 0", "SET 3 8, SET 3 9, SET 0 1, SET 0 0").due(
            "see 3 0 = 1; go 0 = 1; see 3 0 = 0; go 0 = 0; see 0 0 = 1; go 1 = 1; see 3 0 = 0; go 1 = 1; see 3 0 = 1;"
            + "go 0 = 1; go 1 = 1; see 3 0 = 0; go 0 = 0; go 1 = 1; go 0 = 1; see 0 0 = 10; see 1 0 = 0; see 5 3 = 9");
        script("UNTIL: it can't any more", "UNTIL 2 0", "SET 2 1").due("see 3 0 = 1; go 1 = 1; see 3 0 = 0; go 0 = 0; see 0 0 = 0");
    }

    private static void longIsThreeSteps() {
        script("LONG: three steps", "LONG 3 2, ADD 0").after("value 3 4").due(
            "see 2 0 = 0; see 3 0 = 1; go 0 = 1; see 0 0 = 0; see 2 0 = 1; see 1 0 = 4; see 5 3 = 4;"
            + "go 0 = 1; see 0 0 = 0; see 2 0 = 2; see 1 0 = 6; see 5 3 = 4; see 3 0 = 1;"
            + "go 0 = 1; see 0 0 = 1; see 2 0 = 0; see 1 0 = 6; see 5 3 = 6");
        script("LONG as the last statement", "LONG 0 1").due("go 0 = 1; go 0 = 1; go 0 = 1; see 0 0 = 10; see 2 0 = 0; go 0 = 0");
        script("LONG behind LONG", "LONG 0 1, LONG 0 1").due(
            "go 0 = 1; go 0 = 1; go 0 = 1; see 2 0 = 0; see 0 0 = 1; go 0 = 1; see 2 0 = 1; see 1 0 = 1; go 0 = 1; go 0 = 1; see 5 0 = 2");
    }

    private static void longModuloTen() {
        int[][] cases = {{9, 1, 0}, {9, 9, 8}, {0, 9, 9}, {0, 0, 0}, {5, 5, 0}, {9, 0, 9}, {1, 8, 9}};
        for (int[] one : cases) {
            script("LONG: modulo 10, " + one[0] + " and " + one[1], "ADD 6, LONG 1 " + one[1]).after("value 1 " + one[0]).due(
                "go 0 = 1; go 0 = 1; see 1 0 = " + one[0] + "; go 0 = 1; see 1 0 = " + one[2] + "; see 5 1 = " + one[0]
                + "; go 0 = 1; see 5 1 = " + one[2] + "; see 1 0 = " + one[2] + "; can 0 1 " + one[2] + " = 1; can 3 1 " + one[2] + " = 1");
        }
    }

    private static void longReadsFirstAndWritesLast() {
        script("LONG: what comes between is lost", "LONG 0 1", "SET 0 7, SET 0 8").due(
            "go 0 = 1; go 1 = 1; see 5 0 = 7; go 0 = 1; see 1 0 = 1; go 1 = 1; see 5 0 = 8; go 0 = 1; see 5 0 = 1");
    }

    private static void testTakesAndWritesOne() {
        script("TEST: the number, then 1", "TEST 2, TEST 2, TEST 3").after("value 3 9").due(
            "go 0 = 1; see 1 0 = 0; see 5 2 = 1; see 0 0 = 1; go 0 = 1; see 1 0 = 1; see 5 2 = 1; go 0 = 1; see 1 0 = 9; see 5 3 = 1;"
            + "see 0 0 = 10");
    }

    private static void enterOnlyAFreeLock() {
        script("ENTER: only when the lock is free", "ENTER 2, LEAVE 2, ENTER 2", "ENTER 2, LEAVE 2").due(
            "see 3 0 = 1; see 3 1 = 1; go 1 = 1; see 6 2 = 1; see 3 0 = 0; go 0 = 0; see 0 0 = 0; go 1 = 1; see 6 2 = -2; see 3 0 = 1;"
            + "go 0 = 1; see 6 2 = 0; go 0 = 1; see 6 2 = -2; go 0 = 1; see 6 2 = 0; see 6 0 = -2; see 6 1 = -2");
        script("ENTER: its own lock isn't free", "ENTER 0, ENTER 0").due(
            "go 0 = 1; see 3 0 = 0; go 0 = 0; see 0 0 = 1; see 6 0 = 0; count 1 = 1; nth 1 0 = 1");
        script("ENTER: another lock is free", "ENTER 0", "ENTER 1").due("go 0 = 1; go 1 = 1; see 6 0 = 0; see 6 1 = 1");
    }

    private static void leaveOfOwnLock() {
        script("LEAVE: the lock is free", "ENTER 0, ENTER 1, LEAVE 0, LEAVE 1").due(
            "go 0 = 1; go 0 = 1; go 0 = 1; see 6 0 = -2; see 6 1 = 0; see 0 0 = 3; go 0 = 1; see 6 1 = -2; see 0 0 = 10");
    }

    private static void leaveOfAnothersOrFreeLockFails() {
        script("LEAVE of a free lock fails", "LEAVE 1, ADD 1").due(
            "see 3 0 = 1; go 0 = 1; see 0 0 = 11; see 6 1 = -2; go 0 = 0");
        script("LEAVE of another's lock fails, and frees nothing", "ENTER 1", "LEAVE 1").due(
            "go 0 = 1; see 3 1 = 1; go 1 = 1; see 0 1 = 11; see 6 1 = 0");
        script("LEAVE a second time fails", "ENTER 0, LEAVE 0, LEAVE 0").due(
            "go 0 = 1; go 0 = 1; see 0 0 = 2; go 0 = 1; see 0 0 = 11; see 6 0 = -2");
        script("LEAVE of hand 0's lock by hand 0 doesn't fail", "ENTER 0, LEAVE 0", "").due(
            "go 0 = 1; go 0 = 1; see 0 0 = 10; count 0 = 1; can 0 0 0 = 1");
    }

    private static void waitFreesAndSleeps() {
        script("WAIT: two steps", "ENTER 2, WAIT 2, ADD 1", "CALL 2").due(
            "go 0 = 1; see 3 0 = 1; see 4 0 = 0; go 0 = 1; see 0 0 = 1; see 2 0 = 1; see 4 0 = 1; see 6 2 = -2; see 3 0 = 0; go 0 = 0;"
            + "go 1 = 1; see 4 0 = 2; see 2 0 = 1; see 6 2 = -2; see 3 0 = 1; go 0 = 1; see 0 0 = 2; see 2 0 = 0; see 4 0 = 0; see 6 2 = 0");
        script("WAIT: the other locks stay", "ENTER 0, ENTER 1, WAIT 0").due(
            "go 0 = 1; go 0 = 1; go 0 = 1; see 6 0 = -2; see 6 1 = 0; see 4 0 = 1");
        script("WAIT as the last statement", "ENTER 0, WAIT 0", "CALL 0").due(
            "go 0 = 1; go 0 = 1; go 1 = 1; go 0 = 1; see 0 0 = 10; see 2 0 = 0; see 4 0 = 0; see 6 0 = 0");
    }

    private static void waitOfAnothersOrFreeLockFails() {
        script("WAIT at a free lock fails", "WAIT 0").due(
            "see 3 0 = 1; go 0 = 1; see 0 0 = 11; see 2 0 = 0; see 4 0 = 0; see 6 0 = -2; see 3 0 = 0");
        script("WAIT at another's lock fails, and frees nothing", "ENTER 0", "WAIT 0, ADD 1").due(
            "go 0 = 1; see 3 1 = 1; go 1 = 1; see 0 1 = 11; see 4 1 = 0; see 6 0 = 0");
        script("a hand that failed at a WAIT isn't woken", "WAIT 0", "CALL 0").due(
            "go 0 = 1; go 1 = 1; see 4 0 = 0; see 0 0 = 11; see 3 0 = 0");
    }

    private static void wokenAndFree() {
        script("only when it was WOKEN and the lock is free", "ENTER 0, WAIT 0, LEAVE 0", "ENTER 0, CALL 0, LEAVE 0").due(
            "go 0 = 1; go 0 = 1; see 3 0 = 0; go 1 = 1; see 3 0 = 0; go 1 = 1; see 4 0 = 2; see 3 0 = 0; go 0 = 0; see 6 0 = 1;"
            + "go 1 = 1; see 3 0 = 1; go 0 = 1; see 6 0 = 0; see 0 0 = 2; see 3 0 = 1; go 0 = 1; see 0 0 = 10");
    }

    private static void callWithoutSleepers() {
        script("CALL: if any", "CALL 0, CALL 2").due("see 3 0 = 1; go 0 = 1; go 0 = 1; see 0 0 = 10");
        script("CALL ahead of the sleep wakes nobody", "ENTER 0, WAIT 0", "CALL 0").due(
            "go 1 = 1; go 0 = 1; go 0 = 1; see 4 0 = 1; see 3 0 = 0; count 1 = 1");
        script("CALL between ENTER and WAIT wakes nobody", "ENTER 0, WAIT 0", "CALL 0").due(
            "go 0 = 1; go 1 = 1; go 0 = 1; see 4 0 = 1; see 3 0 = 0");
    }

    private static void callOfTheLeastSleeper() {
        String sleeper = "ENTER 0, WAIT 0, LEAVE 0";
        script("CALL: the least hand that sleeps", "CALL 0, CALL 0, CALL 0", sleeper, sleeper).due(
            "go 2 = 1; go 2 = 1; go 1 = 1; go 1 = 1; see 4 1 = 1; see 4 2 = 1; go 0 = 1; see 4 1 = 2; see 4 2 = 1;"
            + "go 0 = 1; see 4 1 = 2; see 4 2 = 2; go 0 = 1; see 4 1 = 2; see 4 2 = 2; see 3 1 = 1; see 3 2 = 1;"
            + "go 2 = 1; see 3 1 = 0; go 2 = 1; go 1 = 1; go 1 = 1; see 0 1 = 10; see 0 2 = 10");
        script("CALL: one only", sleeper, "CALL 0", sleeper).due(
            "go 0 = 1; go 0 = 1; go 2 = 1; go 2 = 1; go 1 = 1; see 4 0 = 2; see 4 2 = 1; see 3 2 = 0");
        script("CALL: the least that sleeps, not the least", sleeper, sleeper, "CALL 0").due(
            "go 1 = 1; go 1 = 1; go 2 = 1; see 4 0 = 0; see 4 1 = 2");
    }

    private static void callOfOwnOrNoLock() {
        script("CALL: the lock need not be its own", "ENTER 0, WAIT 0", "CALL 0, ENTER 0", "ENTER 0").due(
            "go 0 = 1; go 0 = 1; go 2 = 1; go 1 = 1; see 4 0 = 2; see 6 0 = 2; see 3 0 = 0; see 0 1 = 1");
        script("CALL: the lock stays", "ENTER 1, CALL 1").due("go 0 = 1; go 0 = 1; see 6 1 = 0; see 0 0 = 10");
    }

    private static void callWakesNotWhoSleepsElsewhere() {
        script("CALL: that sleeps at lock l", "ENTER 0, WAIT 0", "ENTER 1, WAIT 1", "CALL 1, CALL 2, CALL 0").due(
            "go 0 = 1; go 0 = 1; go 1 = 1; go 1 = 1; go 2 = 1; see 4 0 = 1; see 4 1 = 2; go 2 = 1; see 4 0 = 1; go 2 = 1; see 4 0 = 2");
    }

    private static void meetAlone() {
        script("MEET of one hand", "MEET, MEET").due("see 3 0 = 1; go 0 = 1; see 0 0 = 1; go 0 = 1; see 0 0 = 10");
    }

    private static void meetOfAll() {
        script("MEET: all that are at one are behind it, by one step", "MEET, ADD 1", "ADD 2, MEET, ADD 1", "MEET").due(
            "see 3 0 = 0; see 3 2 = 0; go 0 = 0; go 2 = 0; go 1 = 1; see 3 0 = 1; see 3 1 = 1; see 3 2 = 1; go 2 = 1;"
            + "see 0 0 = 1; see 0 1 = 2; see 0 2 = 10; see 1 1 = 2; go 1 = 1; go 0 = 1; see 0 0 = 10; see 0 1 = 10");
        script("MEET: each hand", "MEET", "MEET", "ADD 0").due("see 3 0 = 0; see 3 1 = 0; go 0 = 0; go 1 = 0; go 2 = 1; see 3 0 = 1; see 3 1 = 1");
    }

    private static void meetWithEndedAndFailed() {
        script("MEET: has ended", "MEET", "", "ADD 1").due(
            "see 3 0 = 0; go 2 = 1; see 3 0 = 1; go 0 = 1; see 0 0 = 10; see 0 1 = 10; see 0 2 = 10");
        script("MEET: or failed", "MEET", "LEAVE 0, ADD 1").due(
            "see 3 0 = 0; go 1 = 1; see 3 0 = 1; go 0 = 1; see 0 0 = 10; see 0 1 = 11");
        script("MEET: one has ended, one failed", "LEAVE 0", "MEET, MEET", "").due(
            "see 3 1 = 0; go 0 = 1; go 1 = 1; see 0 1 = 1; go 1 = 1; see 0 1 = 10; see 0 0 = 11; see 0 2 = 10");
    }

    private static void meetWithASleeper() {
        script("MEET: a hand that sleeps is at no MEET", "ENTER 0, WAIT 0, MEET", "MEET").due(
            "go 0 = 1; go 0 = 1; see 3 0 = 0; see 3 1 = 0; count 1 = 1; count 0 = 0");
        script("MEET: a hand that can't step is at no MEET", "UNTIL 0 1, MEET", "MEET").due("see 3 0 = 0; see 3 1 = 0; count 1 = 1");
    }

    private static void meetsBehindOneAnother() {
        script("MEET: behind it, not behind the next one", "MEET, MEET", "MEET, MEET").due(
            "go 1 = 1; see 0 0 = 1; see 0 1 = 1; go 0 = 1; see 0 0 = 10; see 0 1 = 10; states 0 = 3");
        script("MEET: the last one waits for none", "MEET, MEET, MEET", "MEET").due(
            "go 0 = 1; see 0 1 = 10; go 0 = 1; go 0 = 1; see 0 0 = 10");
    }

    // "A HAND that FAILED does nothing any more; its LOCKS stay its own."

    private static void failedDoesNothing() {
        script("a hand that failed does nothing any more", "LEAVE 0, SET 0 1, SET 0 2", "MEET, UNTIL 0 1").due(
            "go 0 = 1; see 3 0 = 0; go 0 = 0; see 5 0 = 0; go 1 = 1; go 0 = 0; see 0 0 = 11; go 1 = 0; count 1 = 1");
    }

    private static void failedKeepsLocks() {
        script("its locks stay its own", "ENTER 0, ENTER 2, LEAVE 1", "ENTER 0").due(
            "go 0 = 1; go 0 = 1; go 0 = 1; see 0 0 = 11; see 6 0 = 0; see 6 1 = -2; see 6 2 = 0; see 3 1 = 0; go 1 = 0");
        script("its locks stay its own, by WAIT, too", "ENTER 0, WAIT 1", "ENTER 0").due(
            "go 0 = 1; go 0 = 1; see 0 0 = 11; see 6 0 = 0; see 3 1 = 0");
    }

    private static void endedKeepsLocks() {
        script("a hand that has ended still has its lock", "ENTER 1", "ENTER 1").due(
            "go 0 = 1; see 0 0 = 10; see 6 1 = 0; go 1 = 0; count 1 = 2; count 0 = 0");
    }
}
