/** Boundary cases of the pictures of promises 10 and 18, a sentence each. */
public final class EdgePictureTest {
    private static final Check CHECK = new Check();
    private static final String TWENTY_FIVE = Script.times(8, "LONG 0 0");
    private static final String TEN = Script.times(3, "LONG 1 0");

    public static void main(String[] args) {
        picturesZeroToFour();
        wholeAsLongAsItCan();
        wholeThenAny();
        wholeTellsWhoSteppedLast();
        wholeAtMostTwoThousand();
        turnsAtFirst();
        turnsModuloHands();
        turnsPassesOverWhoCant();
        turnsOfOneLeft();
        turnsTellsWhoSteppedLast();
        turnsAtMostTwoThousand();
        shortIsOneStep();
        shortModuloTen();
        shortOfLongAlone();
        shortAtMostTwoThousand();
        openEntersWhenever();
        openLeaveStillFails();
        openOfWokenAlone();
        openOfNothingElse();
        openAtMostTwoThousand();
        locksOfEveryPicture();
        placesOfEveryPicture();
        oneSpentTheOthersNot();
        CHECK.end();
    }

    private static Script script(String sentence, String... hands) {
        return new Script(CHECK, sentence, hands);
    }

    private static void picturesZeroToFour() {
        script("10: pictures 0 to 4", "LONG 0 1", "ADD 1").due(
            "states -1 = -1; states 5 = -1; states MIN = -1; states MAX = -1; states 0 = 8; states 1 = 9; states 2 = 5; states 3 = 4; states 4 = 8");
    }

    // "1 WHOLE: only the HAND that stepped last can step, as long as it can (then any)."

    private static void wholeAsLongAsItCan() {
        script("WHOLE: as long as it can", "SET 0 1, TAKE 1, SET 0 2", "TEST 1, SET 0 3").due(
            "can 1 0 2 = 1; can 1 0 3 = 1; can 1 0 1 = 0; states 1 = 11");
        script("WHOLE: nobody steps between", "LONG 0 1", "LONG 0 1").due("can 1 0 2 = 1; can 1 0 1 = 0; can 0 0 1 = 1; states 1 = 13");
        script("WHOLE: one goes round for ever", "ADD 0, JUMP 0", "SET 0 1").due("states 1 = 6; states 0 = 4; can 1 0 1 = 0; can 1 0 0 = 0");
    }

    private static void wholeThenAny() {
        // Hand 0 stops at its UNTIL; then 1 or 2 go, and 0 not before they stop.
        script("WHOLE: then any", "SET 0 1, UNTIL 1 1, SET 0 4", "SET 1 1, SET 0 2", "SET 0 3").due(
            "can 1 0 2 = 0; can 1 0 3 = 1; can 1 0 4 = 1; can 1 0 1 = 0; can 0 0 2 = 1");
        script("WHOLE: at first any", "SET 0 1", "SET 0 2", "SET 0 3").due("can 1 0 1 = 1; can 1 0 2 = 1; can 1 0 3 = 1; states 1 = 13");
        script("WHOLE: behind a failure any", "LEAVE 0", "SET 0 1").due("can 1 0 1 = 1; states 1 = 5");
        script("WHOLE: able again, but not the last", "UNTIL 0 1, SET 1 1", "SET 0 1, SET 1 2").due("can 1 1 1 = 1; can 1 1 2 = 0; can 0 1 2 = 1");
        script("WHOLE: the first that can", "UNTIL 0 1", "SET 0 1").due("states 1 = 3; can 1 0 1 = 1");
    }

    private static void wholeTellsWhoSteppedLast() {
        script("WHOLE: states tell the hand that stepped last", "ADD 0", "ADD 0").due("states 1 = 5; states 0 = 4");
        script("WHOLE: the first state has none", "JUMP 0").due("states 1 = 2; states 0 = 1");
        script("WHOLE: 1 and four times all steps", "LONG 0 0, ADD 0", "ADD 0", "ADD 0, ADD 0").due("states 1 = 29");
    }

    /** Hand 0 counts two places through, from 3 and 4: 476 steps. */
    private static final String COUNTER = "LONG 0 1, JUMP 4, LONG 3 0, JUMP 0, LONG 1 1, JUMP 8, LONG 3 0, JUMP 0";

    private static void wholeAtMostTwoThousand() {
        String second = Script.times(7, "LONG 3 0") + ", ADD 0";
        script("WHOLE: 2000 states", COUNTER, second, "ADD 0, MEET, ADD 0, ADD 0").after("value 0 3; value 1 4").due(
            "states 1 = 2000; can 1 0 0 = 1; can 1 3 0 = 1; can 1 0 1 = 0; states 0 = -5");
        script("WHOLE: one more would come", COUNTER, second, "ADD 0, MEET, ADD 0, ADD 0, ADD 0").after("value 0 3; value 1 4").due(
            "states 1 = -5; can 1 0 0 = -5");
    }

    // "2 TURNS: behind a STEP of HAND i the first of i + 1, i + 2, .. (modulo h, i last) that can step"

    private static void turnsAtFirst() {
        script("TURNS: at first hand 0, then 1", "SET 0 1", "SET 0 2", "SET 0 3").due("can 2 0 3 = 1; can 2 0 1 = 0; can 2 0 2 = 0; states 2 = 4");
        script("TURNS: at first the first that can", "UNTIL 1 1", "SET 1 1, SET 0 2", "SET 0 3").due(
            "can 2 0 2 = 1; can 2 0 3 = 0; states 2 = 5");
        script("TURNS: at first the last one only", "UNTIL 0 1", "UNTIL 0 1", "SET 0 1").due("states 2 = 4; can 2 0 1 = 1");
        script("TURNS: nobody can", "UNTIL 0 1", "UNTIL 0 1").due("states 2 = 1; can 2 0 0 = 0");
    }

    private static void turnsModuloHands() {
        script("TURNS: modulo h", "SET 0 1, SET 1 1", "SET 0 2, SET 1 2", "SET 0 3, SET 1 3").due(
            "can 2 0 3 = 1; can 2 1 3 = 1; can 2 1 1 = 0; can 2 1 2 = 0; states 2 = 7");
        script("TURNS: behind the last hand the first", "SET 0 1, SET 0 4", "SET 0 2", "SET 0 3").due("can 2 0 4 = 1; can 2 0 3 = 0");
        script("TURNS: two hands", "SET 0 1, SET 0 3", "SET 0 2, SET 0 4").due("can 2 0 4 = 1; can 2 0 3 = 0; states 2 = 5");
    }

    private static void turnsPassesOverWhoCant() {
        script("TURNS: the first that can step", "SET 0 1", "", "SET 0 3, SET 0 5").due("can 2 0 5 = 1; states 2 = 4");
        script("TURNS: over one that failed", "LEAVE 0, SET 0 9", "SET 0 2, SET 0 3", "SET 0 4").due("can 2 0 3 = 1; can 2 0 9 = 0; states 2 = 5");
        // 0 steps, 1 can't, 2 lets it, then 0 is ahead of 1.
        script("TURNS: in its turn, not as soon as it can", "ADD 0, SET 0 1", "UNTIL 1 1, SET 0 2", "SET 1 1, SET 0 3").due(
            "can 2 0 2 = 1; can 2 0 1 = 0; can 2 0 3 = 0; states 2 = 7");
    }

    private static void turnsOfOneLeft() {
        script("TURNS: i last", "SET 0 1, SET 0 2, SET 0 3", "").due("states 2 = 4; can 2 0 3 = 1");
        script("TURNS: one hand", "SET 0 1, SET 0 2").due("states 2 = 3; can 2 0 2 = 1");
    }

    private static void turnsTellsWhoSteppedLast() {
        script("TURNS: the first state has none", "JUMP 0").due("states 2 = 2");
        script("TURNS: states tell the hand that stepped last", "JUMP 0", "JUMP 0").due("states 2 = 3; states 0 = 1; states 1 = 3");
    }

    private static void turnsAtMostTwoThousand() {
        // Rounds of 20, 3 and 11 steps, one with seven steps ahead of it.
        String twenty = Script.times(6, "LONG 0 0") + ", ADD 0, JUMP 0";
        String three = "LONG 1 0, LONG 1 0, ADD 0, ADD 0, ADD 0, JUMP 3";
        String eleven = Script.times(3, "LONG 2 0") + ", ADD 0, JUMP 0";
        script("TURNS: 2000 states", twenty, three, eleven).due("states 2 = 2000; can 2 0 0 = 0; states 0 = -5");
        script("TURNS: one more would come", twenty, eleven, three).due("states 2 = -5; can 2 0 0 = -5");
    }

    // "3 SHORT: a LONG is one STEP."

    private static void shortIsOneStep() {
        script("SHORT: one step", "LONG 0 1").due("states 3 = 2; states 0 = 4; can 3 0 1 = 1; can 3 0 0 = 0");
        script("SHORT: nothing comes between", "LONG 0 1", "LONG 0 1").due("states 3 = 5; can 3 0 2 = 1; can 3 0 1 = 0");
        script("SHORT: TAKE, ADD and GIVE are three", "TAKE 0, ADD 1, GIVE 0", "LONG 0 1").due("can 3 0 1 = 1; can 3 0 2 = 1");
    }

    private static void shortModuloTen() {
        int[][] cases = {{9, 1, 0}, {9, 9, 8}, {0, 9, 9}, {0, 0, 0}, {5, 5, 0}, {4, 5, 9}};
        for (int[] one : cases) {
            script("SHORT: modulo 10, the register too", "LONG 1 " + one[1] + ", GIVE 2").after("value 1 " + one[0]).due(
                "can 3 1 " + one[2] + " = 1; can 3 2 " + one[2] + " = 1; states 3 = 3; count 0 = 1");
        }
    }

    private static void shortOfLongAlone() {
        script("SHORT: a WAIT is two steps, a lock is a lock", "ENTER 0, WAIT 0", "ENTER 0, CALL 0, LEAVE 0").due("states 3 = 12; states 0 = 12");
        script("SHORT: states don't tell the last hand", "ADD 0", "ADD 0").due("states 3 = 4; states 4 = 4");
    }

    private static void shortAtMostTwoThousand() {
        // Hands of 39 and 49 steps.
        String forty = "LONG 0 1, JUMP 4, TAKE 3, JUMP 0, ADD 0";
        String fifty = "LONG 1 1, JUMP 5, ADD 0, TAKE 3, JUMP 0, ADD 0, ADD 0";
        script("SHORT: 2000 states", forty, fifty).due("states 3 = 2000; can 3 0 0 = 1; states 0 = -5");
        script("SHORT: one more would come", forty, fifty, "MEET").due("states 3 = -5; can 3 0 0 = -5");
    }

    // "4 OPEN: ENTER can step whenever (the LOCK is the HAND's then, whosever it was)"

    private static void openEntersWhenever() {
        script("OPEN: a lock of its own", "ENTER 0, ENTER 0, SET 0 1, LEAVE 0, SET 0 2").due(
            "states 4 = 6; can 4 0 2 = 1; states 0 = 2; can 0 0 2 = 0; count 1 = 1");
        script("OPEN: a lock of another's", "ENTER 0, SET 0 1", "ENTER 0, SET 0 2").due("can 4 0 1 = 1; can 4 0 2 = 1; can 0 0 1 = 0; can 0 0 2 = 0");
        script("OPEN: the lock is the hand's then", "ENTER 0, SET 1 1", "UNTIL 1 1, ENTER 0, LEAVE 0, SET 0 9").due(
            "can 4 0 9 = 1; can 0 0 9 = 0");
    }

    private static void openLeaveStillFails() {
        script("OPEN: LEAVE of another's lock fails", "ENTER 0, SET 1 1, UNTIL 1 2, LEAVE 0, SET 0 9", "UNTIL 1 1, ENTER 0, SET 1 2").due(
            "can 4 0 0 = 1; can 4 0 9 = 0");
        script("OPEN: LEAVE of a free lock fails", "LEAVE 0, SET 0 9").due("can 4 0 9 = 0; can 4 0 0 = 1; states 4 = 2");
        script("OPEN: WAIT at another's lock fails", "ENTER 0, SET 1 1, UNTIL 1 2, WAIT 0, SET 0 9", "UNTIL 1 1, ENTER 0, SET 1 2, CALL 0").due(
            "can 4 0 0 = 1; can 4 0 9 = 0");
        script("OPEN: WAIT at a free lock fails", "WAIT 0, SET 0 9").due("can 4 0 0 = 1; states 4 = 2");
    }

    private static void openOfWokenAlone() {
        String sleeper = "ENTER 0, SET 1 1, WAIT 0, SET 0 9";
        script("OPEN: the second step of a WAIT that was woken", sleeper, "UNTIL 1 1, ENTER 0, SET 1 2, CALL 0").due("can 4 0 9 = 1");
        script("OPEN: not of one that wasn't", sleeper, "UNTIL 1 1, ENTER 0, LEAVE 0").due("can 4 0 9 = 0; can 0 0 9 = 0");
        // Hand 1 takes the lock while hand 0 sleeps, calls, and keeps it.
        String keeper = "UNTIL 1 1, ENTER 0, CALL 0";
        script("OPEN: though the lock is another's", "ENTER 0, SET 1 1, WAIT 0, LEAVE 0, SET 0 9", keeper).due(
            "can 4 0 9 = 1; can 0 0 9 = 0; count 0 = 0; can 4 0 0 = 1");
    }

    private static void openOfNothingElse() {
        script("OPEN: UNTIL and MEET as told", "UNTIL 0 1, MEET", "MEET").due("states 4 = 1; can 4 0 0 = 0");
        script("OPEN: a LONG is three steps", "LONG 0 1", "LONG 0 1").due("states 4 = 22; can 4 0 1 = 1");
        script("OPEN: only OPEN", "ENTER 0, SET 0 1", "ENTER 0, SET 0 2").due(
            "can 0 0 1 = 0; can 1 0 1 = 0; can 2 0 1 = 0; can 3 0 1 = 0; can 4 0 1 = 1");
    }

    private static void openAtMostTwoThousand() {
        String entering = "ENTER 0, ENTER 0, " + Script.times(5, "ADD 0");
        script("OPEN: 2000 states", TWENTY_FIVE, TEN, entering).due("states 4 = 2000; can 4 0 0 = 1; states 0 = 500; can 0 0 0 = 0");
        script("OPEN: one more would come", TWENTY_FIVE, TEN, entering + ", MEET").due("states 4 = -5; can 4 0 0 = -5; states 0 = 500");
    }

    // "STATES tell the HAND that stepped last, too": and all else as before

    /** Each lock in each hand, behind a step of each hand: no lock is mistaken for who stepped last. */
    private static void locksOfEveryPicture() {
        for (int lock = 0; lock < 3; lock++) {
            for (int hand = 0; hand < 3; hand++) {
                String[] hands = {"ADD 0", "ADD 0", "ADD 0"};
                hands[hand] = "ADD 0, ENTER " + lock + ", ADD 0, LEAVE " + lock + ", SET 0 1";
                Script x = script("lock " + lock + " of hand " + hand, hands);
                x.due("states 0 = 24; states 1 = 29; states 2 = 8; states 3 = 24; states 4 = 24");
                for (int picture = 0; picture < 5; picture++) {
                    x.due("can " + picture + " 0 1 = 1; can " + picture + " 0 0 = 0");
                }
                hands[hand] = "ENTER " + lock + ", ADD 0";
                hands[(hand + 1) % 3] = "ENTER " + lock + ", SET 0 9";
                script("lock " + lock + " of hand " + hand + " is another's", hands).due(
                    "can 0 0 9 = 0; can 1 0 9 = 0; can 2 0 9 = 0; can 3 0 9 = 0; can 4 0 9 = 1; count 1 = 2; count 0 = 0");
            }
        }
    }

    private static void placesOfEveryPicture() {
        for (int picture = 0; picture < 5; picture++) {
            script("places of picture " + picture, "SET 0 9, SET 3 9, ADD 9", "SET 1 9, ADD 8", "SET 2 9, ADD 7, ENTER 2").due(
                "can " + picture + " 0 9 = 1; can " + picture + " 1 9 = 1; can " + picture + " 2 9 = 1; can " + picture + " 3 9 = 1;"
                + "can " + picture + " 0 8 = 0; can " + picture + " 3 0 = 0");
        }
    }

    private static void oneSpentTheOthersNot() {
        script("10, 18: of its own picture", TWENTY_FIVE, TEN, Script.times(8, "ADD 0")).due(
            "states 0 = -5; states 1 = 165; states 2 = 42; states 3 = 324; states 4 = -5; can 0 0 0 = -5; can 1 0 0 = 1; can 2 0 0 = 1;"
            + "can 3 0 0 = 1; can 4 0 0 = -5; states 0 = -5; states 3 = 324");
    }
}
