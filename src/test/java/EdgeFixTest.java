/** Boundary cases of promises 19 and 20, a sentence of the document each. */
public final class EdgeFixTest {
    private static final Check CHECK = new Check();
    /** Place 1 becomes 1 only if both TAKEs see a 1 at place 0. */
    private static final String LOOKER = "TAKE 0, JUMP 4, TAKE 0, GIVE 1";
    private static final String LOCKED = "ENTER 0, SET 0 1, SET 0 0, LEAVE 0";
    private static final String ADDER = "TAKE 0, ADD 1, GIVE 0";

    public static void main(String[] args) {
        numbersOutOfRange();
        numbersInRange();
        twoHandsAlone();
        fourStatementsAtMost();
        wrongStandsAheadOfTooMany();
        noneIsAheadOfAll();
        emptyHands();
        theFewestWithin();
        rangesFromFirstToLast();
        leastOfHandZero();
        leastOfHandOne();
        jumpsToTheEnter();
        jumpsWithin();
        jumpsPastTheLeave();
        jumpsBehindTheLast();
        noStuckState();
        allEndsHaveIt();
        noHandFails();
        notSpent();
        everyLock();
        thereIsNone();
        fixedOutOfRange();
        fixedOfNoneSuch();
        fixedOfTheLatestThatToldOne();
        fixedWhateverThePuzzleIs();
        fixChangesNothingElse();
        CHECK.end();
    }

    private static Script script(String sentence, String... hands) {
        return new Script(CHECK, sentence, hands);
    }

    private static String ranges(int i0, int j0, int i1, int j1) {
        return "; fixed 0 0 = " + i0 + "; fixed 0 1 = " + j0 + "; fixed 1 0 = " + i1 + "; fixed 1 1 = " + j1;
    }

    // Promise 19

    private static void numbersOutOfRange() {
        script("19: -1", "LONG 0 1", "LONG 0 1").due(
            "fix -1 0 2 = -1; fix 3 0 2 = -1; fix MIN 0 2 = -1; fix MAX 0 2 = -1; fix 0 -1 2 = -1; fix 0 4 2 = -1; fix 0 MIN 2 = -1;"
            + "fix 0 MAX 2 = -1; fix 0 0 -1 = -1; fix 0 0 10 = -1; fix 0 0 MIN = -1; fix 0 0 MAX = -1; fixed 0 0 = -3");
    }

    private static void numbersInRange() {
        script("19: place 0 and 3, n 0 and 9", "SET 3 9", "").due("fix 0 0 0 = 0; fix 2 3 9 = 0; fix 0 0 9 = -2; fix 0 3 0 = -2");
    }

    private static void twoHandsAlone() {
        script("19: -3 of one hand", "LONG 0 1").due("fix 0 0 1 = -3; fixed 0 0 = -3");
        script("19: -3 of three hands", "LONG 0 1", "", "").due("fix 0 0 1 = -3");
        script("19: two hands", "LONG 0 1", "").due("fix 0 0 1 = 0");
    }

    private static void fourStatementsAtMost() {
        String four = Script.times(4, "ADD 0");
        script("19: 4 statements each", four, four).due("fix 0 0 0 = 0");
        script("19: -3 of 5 of hand 0", four + ", ADD 0", "").due("fix 0 0 0 = -3; uncode 0 = 4; fix 0 0 0 = 0");
        script("19: -3 of 5 of hand 1", "", four + ", ADD 0").due("fix 0 0 0 = -3; uncode 1 = 4; fix 0 0 0 = 0");
        script("19: -3 of 8", Script.times(8, "ADD 0"), Script.times(8, "ADD 0")).due("fix 0 0 0 = -3");
    }

    private static void wrongStandsAheadOfTooMany() {
        script("19: -1 ahead of -3", "ADD 1").due("fix 3 0 0 = -1; fix -1 0 0 = -1; fix 0 4 0 = -1; fix 0 0 10 = -1; fix 0 0 0 = -3");
        script("20: -1 ahead of -3", "ADD 1", "ADD 1").due("fixed 2 0 = -1; fixed -1 0 = -1; fixed 0 2 = -1; fixed 0 -1 = -1; fixed 1 1 = -3");
    }

    private static void noneIsAheadOfAll() {
        script("19: none ahead of all", "ADD 1, ADD 1", "ADD 1").due("fix 0 0 0 = 0" + ranges(-2, -2, -2, -2));
        script("19: the wish holds already", "SET 0 7", "SET 1 8").due("fix 0 0 7 = 0" + ranges(-2, -2, -2, -2) + "; fix 0 1 8 = 0; fix 0 0 0 = -2");
        // Either hand's JUMP within would do, as the other one goes round for ever.
        script("19: none of hand 0 ahead of some", "LONG 0 1, TAKE 3, JUMP 0", "LONG 1 1, TAKE 3, JUMP 0").due(
            "states 0 = -5; fix 0 2 0 = 1" + ranges(-2, -2, 2, 2));
    }

    private static void emptyHands() {
        script("19: no statements at all", "", "").due("fix 0 0 0 = 0; fix 0 0 1 = -2; fix 1 3 0 = 0" + ranges(-2, -2, -2, -2));
        script("19: one hand has none", "", LOCKED).due("fix 0 0 0 = 0; fix 0 0 1 = -2");
        script("19: a range needs a statement", "", "SET 0 1").due("fix 0 0 0 = -2; fixed 0 0 = -3");
    }

    private static void theFewestWithin() {
        script("19: the fewest of both together", "ADD 0, LONG 0 1, ADD 0", "ADD 0, ADD 0, LONG 0 1").due("fix 0 0 2 = 2" + ranges(1, 1, 2, 2));
        script("19: three and one", ADDER, "ADD 0, LONG 0 1").due("fix 0 0 2 = 4" + ranges(0, 2, 1, 1));
        script("19: one and three", "LONG 0 1, ADD 0", ADDER).due("fix 0 0 2 = 4" + ranges(0, 0, 0, 2));
    }

    private static void rangesFromFirstToLast() {
        script("19: from the first to the last", "TAKE 0, ADD 1, ADD 0, GIVE 0", "TAKE 0, ADD 0, ADD 1, GIVE 0").due(
            "fix 0 0 2 = 8" + ranges(0, 3, 0, 3));
        script("19: from the second to the last", "ADD 0, " + ADDER, "ADD 0, " + ADDER).due("fix 0 0 2 = 6" + ranges(1, 3, 1, 3));
        script("19: from the first to the last but one", ADDER + ", ADD 0", ADDER + ", ADD 0").due("fix 0 0 2 = 6" + ranges(0, 2, 0, 2));
        script("19: in the middle, and the last alone", "ADD 0, TAKE 0, GIVE 0, ADD 0", "ADD 0, ADD 0, ADD 0, LONG 0 1").due(
            "fix 0 0 1 = 3" + ranges(1, 2, 3, 3));
        script("19: the first alone, and the last two", "LONG 0 1, ADD 0, ADD 0, ADD 0", "ADD 0, ADD 0, TAKE 0, GIVE 0").due(
            "fix 0 0 1 = 3" + ranges(0, 0, 2, 3));
    }

    private static void leastOfHandZero() {
        // The first TAKE within would do, and the second one as well.
        script("19: of these the least i of hand 0", LOOKER, LOCKED).due("can 0 1 1 = 1; fix 0 1 0 = 1" + ranges(0, 0, -2, -2));
    }

    private static void leastOfHandOne() {
        script("19: then of hand 1", LOCKED, LOOKER).due("can 0 1 1 = 1; fix 0 1 0 = 1" + ranges(-2, -2, 0, 0));
        script("19: then of hand 1, a JUMP within", "LONG 0 1, TAKE 3, JUMP 0", "LONG 1 1, TAKE 3, JUMP 3, JUMP 0").due(
            "fix 0 2 0 = 1" + ranges(-2, -2, 2, 2));
    }

    // "JUMPS lead to the same STATEMENTS as before: ahead of an ENTER that was put in ahead of these"

    private static void jumpsToTheEnter() {
        script("19: ahead of an ENTER", "LONG 0 1", "JUMP 2, ADD 0, LONG 0 1").due("fix 0 0 2 = 2" + ranges(0, 0, 2, 2));
        script("19: ahead of an ENTER, hand 0", "JUMP 3, ADD 0, ADD 0, LONG 0 1", "LONG 0 1").due("fix 0 0 2 = 2" + ranges(3, 3, 0, 0));
    }

    private static void jumpsWithin() {
        script("19: to the same statement, within", "LONG 0 1", "TAKE 0, JUMP 2, ADD 0, GIVE 0").due("fix 0 0 1 = 5" + ranges(0, 0, 0, 3));
        script("19: to the same statement, ahead of the range", "LONG 0 1", "TAKE 1, JUMP 2, ADD 0, LONG 0 1").due(
            "fix 0 0 2 = 2" + ranges(0, 0, 3, 3));
        script("19: to the same statement, behind the range", "LONG 0 1", "LONG 0 1, TAKE 1, JUMP 3, SET 2 5").due(
            "fix 0 0 2 = 2" + ranges(0, 0, 0, 0) + "; fix 0 2 5 = 0");
    }

    private static void jumpsPastTheLeave() {
        // From within, over the LEAVE: the lock would stay, and hand 0 needs it later.
        script("19: past the LEAVE", "LONG 0 1, ENTER 0, LEAVE 0", "TAKE 0, JUMP 3, GIVE 0, ADD 0").after("value 0 9").due(
            "fix 0 0 0 = 5" + ranges(0, 0, 0, 3));
    }

    private static void jumpsBehindTheLast() {
        // From within to behind the last one: past the LEAVE, so it can't be within.
        for (int n = 4; n <= 8; n++) {
            script("19: a JUMP behind the last one ends", "ADD 0, TAKE 0, GIVE 0", "LONG 0 1, ADD 0, TAKE 3, JUMP " + n).due(
                "fix 0 0 1 = 3" + ranges(1, 2, 0, 0));
        }
        script("19: a JUMP behind the last one holds the lock for ever", "LONG 0 1, ADD 0, ENTER 0", "TAKE 0, JUMP 4, GIVE 0, ADD 0").after(
            "value 0 9").due("fix 0 0 0 = -2; fixed 0 0 = -3");
    }

    // "such that in TRUE there is no STUCK STATE, all ENDS have n at p, no HAND FAILS, and it isn't SPENT"

    private static void noStuckState() {
        script("19: stuck, and no lock helps", "UNTIL 0 1", "").due("fix 0 0 0 = -2; fix 0 0 1 = -2");
        script("19: stuck in some orders", "UNTIL 0 0", "SET 0 1").due("fix 0 0 1 = -2; fixed 0 0 = -3");
        script("19: a lock that keeps from being stuck", "ENTER 0, ENTER 1, LEAVE 1, LEAVE 0", "ENTER 1, ENTER 0, LEAVE 0, LEAVE 1").due(
            "count 1 = 1; fix 2 0 0 = 4" + ranges(0, 1, 0, 1) + "; fix 2 0 1 = -2");
    }

    private static void allEndsHaveIt() {
        script("19: all ends", "SET 0 1", "SET 0 2").due("fix 0 0 1 = -2; fix 0 0 2 = -2; fix 0 1 0 = 0");
        script("19: no end at all", "JUMP 0", "").due("fix 0 0 0 = 0; fix 0 3 9 = 0" + ranges(-2, -2, -2, -2));
    }

    private static void noHandFails() {
        script("19: a hand fails", "LEAVE 1", "").due("count 0 = 1; can 0 0 0 = 1; fix 0 0 0 = -2; fix 1 0 0 = -2");
        script("19: a hand fails in some orders", "ENTER 0, LEAVE 0", "TAKE 1, JUMP 3, LEAVE 0").due("fix 0 0 0 = 0");
        script("19: a hand fails in some orders, of a place", "SET 1 1", "TAKE 1, JUMP 3, LEAVE 0").due("fix 0 0 0 = -2; fix 1 1 1 = -2");
    }

    private static void notSpent() {
        script("19: spent, and nothing stops it", "LONG 0 1, TAKE 3, JUMP 0", "LONG 0 3, LONG 1 1, TAKE 3, JUMP 0").due(
            "states 0 = -5; fix 0 2 0 = -2; fixed 0 0 = -3");
        script("19: spent, and a lock stops it", "LONG 0 1, TAKE 3, JUMP 0", "LONG 2 3, ADD 0, TAKE 3, JUMP 0").due(
            "states 0 = -5; fix 0 1 0 = 1" + ranges(-2, -2, 3, 3));
    }

    private static void everyLock() {
        for (int lock = 0; lock < 3; lock++) {
            script("19: with lock " + lock, "LONG 0 1", "LONG 0 1").due("fix " + lock + " 0 2 = 2" + ranges(0, 0, 0, 0));
        }
        script("19: with a lock that the puzzle has, too", "ENTER 1, LONG 0 1, LEAVE 1", "LONG 0 1").due(
            "fix 1 0 2 = 1" + ranges(-2, -2, 0, 0) + "; fix 0 0 2 = 2" + ranges(1, 1, 0, 0) + "; fix 2 0 2 = 2");
    }

    private static void thereIsNone() {
        script("19: there is none", "LONG 0 1", "LONG 0 1").due("fix 0 0 3 = -2; fix 0 0 1 = -2; fix 0 0 0 = -2; fix 0 0 2 = 2");
    }

    // Promise 20

    private static void fixedOutOfRange() {
        script("20: -1", "LONG 0 1", "LONG 0 1").due(
            "fix 0 0 2 = 2; fixed -1 0 = -1; fixed 2 0 = -1; fixed MIN 0 = -1; fixed MAX 0 = -1; fixed 0 -1 = -1; fixed 0 2 = -1;"
            + "fixed 1 MIN = -1; fixed 1 MAX = -1; fixed 0 0 = 0; fixed 1 1 = 0");
    }

    private static void fixedOfNoneSuch() {
        script("20: -3, none was asked").due("fixed 0 0 = -3; fixed 0 1 = -3; fixed 1 0 = -3; fixed 1 1 = -3");
        script("20: -3, none was told", "LONG 0 1", "LONG 0 1").due("fix 0 0 3 = -2; fixed 0 0 = -3; fix 0 0 10 = -1; fixed 1 0 = -3; fix 0 0 2 = 2; fixed 1 0 = 0");
    }

    private static void fixedOfTheLatestThatToldOne() {
        script("20: the latest that told one", "LONG 0 1, SET 1 4", "ADD 0, LONG 0 1").due(
            "fix 0 0 2 = 2" + ranges(0, 0, 1, 1) + "; fix 0 0 3 = -2" + ranges(0, 0, 1, 1) + "; fix 3 0 2 = -1" + ranges(0, 0, 1, 1)
            + "; fix 0 1 4 = 0" + ranges(-2, -2, -2, -2) + "; fix 1 0 2 = 2" + ranges(0, 0, 1, 1));
    }

    private static void fixedWhateverThePuzzleIs() {
        script("20: the latest, of an earlier puzzle, too", "LONG 0 1, SET 1 4", "ADD 0, LONG 0 1").due(
            "fix 0 0 2 = 2; uncode 0 = 1" + ranges(0, 0, 1, 1) + "; value 3 3 = 0; code 1 3 0 1 = 2" + ranges(0, 0, 1, 1)
            + "; puzzle 3 = 4; fix 0 0 0 = -3" + ranges(0, 0, 1, 1) + "; puzzle 1 = 0" + ranges(0, 0, 1, 1) + "; start = 0");
        script("20: found anew for another puzzle", "LONG 0 1", "LONG 0 1").due(
            "fix 0 0 2 = 2; value 0 9 = 0; fix 0 0 2 = -2; fix 0 0 1 = 2; value 0 0 = 9; fix 0 0 1 = -2; code 1 0 0 5 = 1; fix 0 0 2 = -2");
    }

    private static void fixChangesNothingElse() {
        script("19: the puzzle, the run and answers stay", "LONG 0 1", "LONG 0 1").due(
            "go 0 = 1; answer 0 1 no = 1; states 3 = 5; fix 0 0 2 = 2; see 2 0 = 1; answer 0 2 yes = 2; told 0 0 0 = 6; told 0 1 0 = -1;"
            + "see 6 0 = -2; states 0 = 22; states 3 = 5; can 3 0 1 = 0; cost 0 = 1; lead 7 = 1; go 0 = 1; puzzle 1 = 2");
    }
}
