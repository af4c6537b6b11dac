/** Boundary cases of promises 10 to 18, of states, ways and races, a sentence each. */
public final class EdgeOrdersTest {
    private static final Check CHECK = new Check();
    /** 25 and 10 states of their own, behind which an end is. */
    private static final String TWENTY_FIVE = Script.times(8, "LONG 0 0");
    private static final String TEN = Script.times(3, "LONG 1 0");

    public static void main(String[] args) {
        statesAreNumberedAsTheyCome();
        whatWasThereIsNotNew();
        registersMakeStates();
        twoThousandAtMost();
        spentOfOrders();
        notSpentAnyMore();
        wrongStandsAheadOfSpent();
        endsOfAllKinds();
        stuckOfAllKinds();
        neitherEndNorStuck();
        comeBack();
        allComeBack();
        comeBackNoMore();
        countOutOfRange();
        nthFromZeroToTheLast();
        nthOutOfRange();
        wayOfFirstAndLast();
        wayOfFewestSteps();
        wayOfLeastHands();
        stepFromZeroToTheLast();
        leadToFirstAndLast();
        leadWhereItIs();
        raceOfHands();
        raceOfKinds();
        raceOfLong();
        raceOfTheSamePlace();
        raceWhereBothCanStep();
        raceIsTheFirst();
        alwaysOutOfRange();
        alwaysIsTheFirst();
        alwaysOfStatesThereAre();
        alwaysWithNoStepMade();
        alwaysWhereAHandNeverIs();
        canOutOfRange();
        canOfEndsAlone();
        CHECK.end();
    }

    private static Script script(String sentence, String... hands) {
        return new Script(CHECK, sentence, hands);
    }

    // "STATES are numbered as they come"

    private static void statesAreNumberedAsTheyCome() {
        script("each is looked at in turn, its hands by numbers", "ADD 1, ADD 1", "ADD 2").due(
            "states 0 = 6; lead 1 = 1; see 0 0 = 1; see 0 1 = 0; lead 2 = 1; see 0 0 = 0; see 0 1 = 10;"
            + "lead 3 = 1; see 0 0 = 10; see 0 1 = 0; lead 4 = 1; see 0 0 = 1; see 0 1 = 10;"
            + "lead 5 = 1; see 0 0 = 10; see 0 1 = 10; lead 0 = 1; see 0 0 = 0; see 0 1 = 0; start = 0");
        script("three hands by numbers", "SET 0 1", "SET 0 2", "SET 0 3").due(
            "lead 1 = 1; see 5 0 = 1; lead 2 = 1; see 5 0 = 2; lead 3 = 1; see 5 0 = 3;"
            + "lead 4 = 1; see 5 0 = 2; see 0 2 = 0; lead 5 = 1; see 5 0 = 3; see 0 1 = 0;"
            + "lead 6 = 1; see 5 0 = 1; see 0 2 = 0; lead 7 = 1; see 5 0 = 3; see 0 0 = 0;"
            + "lead 8 = 1; see 5 0 = 1; see 0 1 = 0; lead 9 = 1; see 5 0 = 2; see 0 0 = 0; states 0 = 13; count 0 = 3");
    }

    private static void whatWasThereIsNotNew() {
        script("unless it was there", "ADD 0", "ADD 0").due("states 0 = 4; count 0 = 1; nth 0 0 = 3");
        script("a step that changes nothing", "JUMP 0").due("states 0 = 1; way 0 = 0; count 2 = 1");
        script("a step of two hands to one state", "MEET", "MEET", "MEET").due("states 0 = 2; step 1 0 = 0");
    }

    private static void registersMakeStates() {
        script("a state is all of this: registers", "TAKE 0", "SET 0 1").due("states 0 = 5; count 0 = 2; can 0 0 1 = 1; can 0 0 0 = 0");
        script("a state is all of this: locks", "ENTER 0", "ENTER 1, LEAVE 1").due("states 0 = 6");
        script("a state is all of this: locks' hands", "ENTER 0, LEAVE 0", "ENTER 0, LEAVE 0").due("states 0 = 8; count 0 = 1");
        script("a state is all of this: steps made", "LONG 0 0").due("states 0 = 4");
        script("a state is all of this: woken", "ENTER 0, WAIT 0", "CALL 0").due("states 0 = 8; count 0 = 1; count 1 = 1");
    }

    // "2000 STATES at most: SPENT where one more would come."

    private static void twoThousandAtMost() {
        String seven = Script.times(7, "ADD 0");
        script("2000 states", TWENTY_FIVE, TEN, seven).due(
            "states 0 = 2000; count 0 = 1; nth 0 0 = 1999; way 1999 = 40; step 1999 39 = 2; step 1999 40 = -3; way 2000 = -1;"
            + "lead 1999 = 1; see 0 0 = 10; see 0 1 = 10; see 0 2 = 10; lead 2000 = -1; count 1 = 0; count 2 = 0;"
            + "can 0 0 0 = 1; race 0 1 = -2; always 2 6 0 0 = -2; states 4 = 2000");
        script("2000 states, the last one stuck", TWENTY_FIVE, TEN, seven + ", UNTIL 3 1").due(
            "states 0 = 2000; count 0 = 0; count 1 = 1; nth 1 0 = 1999");
        script("one more would come", TWENTY_FIVE, TEN, seven + ", MEET").due("states 0 = -5; states 4 = -5; count 0 = -5");
        script("many more would come", TWENTY_FIVE, TWENTY_FIVE, TWENTY_FIVE).due("states 0 = -5; states 4 = -5; states 3 = 729");
        script("a step back into 2000 states", "TAKE 0, ADD 1, GIVE 0, TAKE 3, JUMP 0", seven, Script.times(4, "ADD 0")).due(
            "states 0 = 2000; count 0 = 0; count 1 = 0; count 2 = 2000");
    }

    private static void spentOfOrders() {
        script("10 to 18: -5", TWENTY_FIVE, TEN, Script.times(7, "ADD 0") + ", MEET").due(
            "states 0 = -5; count 0 = -5; count 1 = -5; count 2 = -5; nth 0 0 = -5; nth 1 0 = -5; nth 2 0 = -5; nth 0 MAX = -5;"
            + "way 0 = -5; way 1 = -5; way 1999 = -5; way 2000 = -5; way MAX = -5; step 0 0 = -5; step 1 0 = -5; step 2000 0 = -5;"
            + "step 0 MAX = -5; lead 0 = -5; lead 1 = -5; lead 2000 = -5; race 0 1 = -5; race 2 0 = -5; always 0 0 0 0 = -5;"
            + "always 0 0 0 1 = -5; can 0 0 0 = -5; can 4 0 0 = -5; can 3 0 0 = 1; can 2 0 0 = 1; can 1 0 0 = 1; states 3 = 289");
        script("the run needs no orders", TWENTY_FIVE, TEN, Script.times(8, "ADD 0")).due(
            "states 0 = -5; go 0 = 1; see 2 0 = 1; see 3 2 = 1; start = 1; start = 0");
    }

    private static void notSpentAnyMore() {
        script("spent, and no more", TWENTY_FIVE, TEN, Script.times(8, "ADD 0")).due(
            "states 0 = -5; way 5 = -5; uncode 2 = 7; states 0 = 2000; way 5 = 2; code 2 3 0 0 = 7; states 0 = -5; puzzle 1 = 19;"
            + "states 0 = 1; count 0 = 1; way 0 = 0; lead 0 = 0");
    }

    private static void wrongStandsAheadOfSpent() {
        script("-1 ahead of -5", TWENTY_FIVE, TEN, Script.times(8, "ADD 0")).due(
            "states -1 = -1; states 5 = -1; count -1 = -1; count 3 = -1; nth -1 0 = -1; nth 3 0 = -1; nth 0 -1 = -1; nth 2 MIN = -1;"
            + "way -1 = -1; way MIN = -1; step -1 0 = -1; step 0 -1 = -1; step 2000 -1 = -1; step MIN MIN = -1; lead -1 = -1; lead MIN = -1;"
            + "race 0 0 = -1; race 0 3 = -1; race -1 1 = -1; always 0 8 0 0 = -1; always 1 3 0 0 = -1; always 3 0 0 0 = -1;"
            + "always 0 0 4 0 = -1; always 0 0 0 10 = -1; can 5 0 0 = -1; can 0 4 0 = -1; can 0 0 10 = -1; can 0 -1 0 = -1");
    }

    // "An END is a STATE in which all HANDS have ENDED or FAILED; STUCK: no HAND can step, and it isn't an END."

    private static void endsOfAllKinds() {
        script("all have ended at first", "", "", "").due("count 0 = 1; count 1 = 0; nth 0 0 = 0; states 0 = 1");
        script("one ended, one failed", "ADD 1", "LEAVE 0").due("count 0 = 1; count 1 = 0; nth 0 0 = 3");
        script("all failed", "LEAVE 0", "WAIT 1", "LEAVE 2").due("count 0 = 1; count 1 = 0; nth 0 0 = 7; states 0 = 8");
        script("one of them isn't there yet", "", "ADD 1").due("count 0 = 1; nth 0 0 = 1; nth 0 1 = -3");
        script("ends that differ in a register alone", "TAKE 0, SET 0 0", "TEST 0").due("count 0 = 3");
    }

    private static void stuckOfAllKinds() {
        script("stuck at first", "UNTIL 0 1").due("count 0 = 0; count 1 = 1; nth 1 0 = 0; nth 0 0 = -3; states 0 = 1");
        script("one ended, one can't step", "", "UNTIL 0 1").due("count 0 = 0; count 1 = 1");
        script("one failed, one can't step", "LEAVE 0", "UNTIL 0 1").due("count 0 = 0; count 1 = 1; nth 1 0 = 1");
        script("one sleeps for ever", "ENTER 0, WAIT 0").due("count 1 = 1; nth 1 0 = 2; count 0 = 0");
        script("one waits for its own lock", "ENTER 0, ENTER 0").due("count 1 = 1; nth 1 0 = 1");
        script("some orders get stuck, some end", "UNTIL 0 0", "SET 0 1").due("count 0 = 1; count 1 = 1; nth 1 0 = 2; nth 0 0 = 3");
    }

    private static void neitherEndNorStuck() {
        script("one ended, one goes round", "", "JUMP 0").due("count 0 = 0; count 1 = 0; count 2 = 1");
        script("one can't step, one goes round", "UNTIL 0 1", "JUMP 0").due("count 0 = 0; count 1 = 0; count 2 = 1");
    }

    // "STATES that come back to themselves by STEPS"

    private static void comeBack() {
        script("by one step", "JUMP 0").due("count 2 = 1; nth 2 0 = 0; nth 2 1 = -3");
        script("by two steps", "ADD 0, JUMP 0").due("count 2 = 2; nth 2 0 = 0; nth 2 1 = 1; nth 2 2 = -3");
        script("not those ahead of the round", "ADD 0, ADD 0, JUMP 1").due("count 2 = 2; nth 2 0 = 1; nth 2 1 = 2");
        script("not those behind the round", "UNTIL 0 0, JUMP 0", "SET 0 1, LONG 1 0").due("count 2 = 2; nth 2 0 = 0; nth 2 1 = 1; count 1 = 1");
        script("none", "ADD 1, LONG 0 1").due("count 2 = 0; nth 2 0 = -3");
        script("two rounds apart", "ADD 0, JUMP 0", "SET 0 1").due("count 2 = 4; states 0 = 4; nth 2 3 = 3");
        script("not what leads from round to round", "JUMP 0", "LONG 1 1").due("count 2 = 4; states 0 = 4");
        script("a place that isn't back yet", "LONG 0 1, TAKE 3, JUMP 0").due("states 0 = 50; count 2 = 50");
    }

    private static void allComeBack() {
        Script x = script("all 2000 come back", "TAKE 0, ADD 1, GIVE 0, TAKE 3, JUMP 0", Script.times(7, "ADD 0") + ", JUMP 0",
            Script.times(4, "ADD 0") + ", JUMP 0");
        x.due("states 0 = 2000; count 2 = 2000; nth 2 0 = 0; nth 2 1999 = 1999; nth 2 2000 = -3; count 0 = 0; count 1 = 0");
    }

    private static void comeBackNoMore() {
        script("of an earlier puzzle none come back", "LONG 0 1, TAKE 3, JUMP 0", "ADD 0, JUMP 0").due(
            "states 0 = 100; count 2 = 100; nth 2 99 = 99; uncode 1 = 1; count 2 = 100; nth 2 100 = -3; puzzle 2 = 4; count 2 = 0; nth 2 0 = -3;"
            + "code 0 3 0 0 = 0; count 2 = 0; nth 2 0 = -3; code 0 4 0 0 = 1; count 2 = 2; nth 2 1 = 1; nth 2 2 = -3; code 1 3 0 0 = 0; count 2 = 4");
    }

    // Promises 11 and 12

    private static void countOutOfRange() {
        script("11: -1", "ADD 1").due("count -1 = -1; count 3 = -1; count MIN = -1; count MAX = -1; count 0 = 1; count 2 = 0");
    }

    private static void nthFromZeroToTheLast() {
        script("12: the i-th, by numbers", "LONG 0 1", "LONG 0 1").due(
            "count 0 = 3; nth 0 0 = 19; nth 0 1 = 20; nth 0 2 = 21; nth 0 3 = -3; nth 0 MAX = -3; nth 1 0 = -3; nth 2 0 = -3");
        script("12: ends and stuck ones side by side", "UNTIL 0 0, ADD 1", "SET 0 1", "TEST 0").due(
            "count 0 = 2; count 1 = 2; nth 0 2 = -3; nth 1 2 = -3");
    }

    private static void nthOutOfRange() {
        script("12: -1", "ADD 1").due(
            "nth -1 0 = -1; nth 3 0 = -1; nth MIN 0 = -1; nth MAX 0 = -1; nth 0 -1 = -1; nth 1 -1 = -1; nth 2 -1 = -1; nth 0 MIN = -1;"
            + "nth 3 -1 = -1; nth 3 99 = -1; nth 0 0 = 1; nth 0 1 = -3");
    }

    // Promises 13 to 15

    private static void wayOfFirstAndLast() {
        script("13: -1 below 0 or above all", "ADD 1, ADD 1").due(
            "way -1 = -1; way MIN = -1; way 0 = 0; way 1 = 1; way 2 = 2; way 3 = -1; way 2000 = -1; way MAX = -1");
    }

    private static void wayOfFewestSteps() {
        script("13: the fewest steps", "JUMP 3, ADD 0, ADD 0, ADD 0", "ADD 0").due("states 0 = 6; way 5 = 3; way 4 = 2");
        script("13: a way round is longer", "TAKE 0, JUMP 3, ADD 9, SET 1 1", "SET 0 1").due(
            "states 0 = 10; way 7 = 3; step 7 0 = 0; step 7 1 = 0; step 7 2 = 1; nth 0 0 = 9; way 9 = 4; step 9 2 = 0; step 9 3 = 1");
    }

    private static void wayOfLeastHands() {
        script("14: of like ones the least hands first", "ADD 1", "ADD 1", "ADD 1").due(
            "states 0 = 8; way 7 = 3; step 7 0 = 0; step 7 1 = 1; step 7 2 = 2; way 6 = 2; step 6 0 = 1; step 6 1 = 2;"
            + "way 5 = 2; step 5 0 = 0; step 5 1 = 2; way 3 = 1; step 3 0 = 2");
        script("14: the least first, though it is greater later", "SET 0 1, UNTIL 1 1, SET 0 0", "SET 1 1, UNTIL 0 1").due(
            "states 0 = 9; count 0 = 1; nth 0 0 = 8; way 8 = 5; step 8 0 = 0; step 8 1 = 1; step 8 2 = 0; step 8 3 = 1; step 8 4 = 0");
    }

    private static void stepFromZeroToTheLast() {
        script("14: the hand of step k", "ADD 1, ADD 1", "ADD 1").due(
            "step 0 0 = -3; step 0 -1 = -1; step 0 MIN = -1; step 0 MAX = -3; step 1 0 = 0; step 1 1 = -3; step 2 0 = 1; step 2 1 = -3;"
            + "way 5 = 3; step 5 0 = 0; step 5 1 = 0; step 5 2 = 1; step 5 3 = -3; step 5 MAX = -3; step 5 -1 = -1;"
            + "step 6 0 = -1; step 6 9 = -1; step 6 -1 = -1; step -1 0 = -1; step -1 9 = -1; step MIN 0 = -1; step MAX 0 = -1");
    }

    private static void leadToFirstAndLast() {
        script("15: a state of TRUE", "ADD 1, ADD 2").due(
            "lead -1 = -1; lead 3 = -1; lead MIN = -1; lead MAX = -1; see 0 0 = 0; lead 2 = 1; see 0 0 = 10; see 1 0 = 3; lead 3 = -1;"
            + "see 0 0 = 10; go 0 = 0; lead 1 = 1; see 0 0 = 1; see 1 0 = 1; go 0 = 1; see 1 0 = 3; lead 0 = 1; see 1 0 = 0; start = 0");
    }

    private static void leadWhereItIs() {
        script("15: 1, or 0 if it was", "ADD 1, ADD 2").due(
            "lead 0 = 0; go 0 = 1; lead 1 = 0; lead 1 = 0; lead 2 = 1; lead 2 = 0; start = 1; lead 0 = 0");
        script("15: answers stay, the puzzle stays", "ADD 1, ADD 2").due(
            "answer 0 0 yes = 1; lead 2 = 1; answer 1 0 yes = 2; told 0 1 2 = 2; puzzle 1 = 2");
    }

    // "A RACE of two HANDS in a STATE"

    private static void raceOfHands() {
        script("16: -1", "SET 0 1", "SET 0 2").due(
            "race 0 0 = -1; race 1 1 = -1; race 0 2 = -1; race 2 0 = -1; race -1 0 = -1; race 0 -1 = -1; race 2 2 = -1; race MIN MAX = -1;"
            + "race 0 MAX = -1; race 0 1 = 0; race 1 0 = 0");
        script("16: any two of three", "SET 0 1", "ADD 1", "TAKE 0").due("race 0 2 = 0; race 2 0 = 0; race 0 1 = -2; race 1 2 = -2; race 2 1 = -2");
    }

    /** By kind, of a first step that can be made: 1 it reads, 2 it writes, 3 both. */
    private static void raceOfKinds() {
        String[] rows = {"SET 2 1", "TAKE 2", "GIVE 2", "ADD 2", "JUMP 2", "UNTIL 2 0", "TEST 2", "ENTER 2", "LEAVE 2", "WAIT 2",
            "CALL 2", "MEET"};
        int[] does = {2, 1, 2, 0, 0, 1, 3, 0, 0, 0, 0, 0};
        for (int i = 0; i < rows.length; i++) {
            for (int j = 0; j < rows.length; j++) {
                boolean races = does[i] != 0 && does[j] != 0 && ((does[i] | does[j]) & 2) != 0;
                script("16: " + rows[i] + " and " + rows[j], rows[i], rows[j]).due("race 0 1 = " + (races ? 0 : -2));
            }
        }
    }

    private static void raceOfLong() {
        // Hand 1 has one step, hand 0 is at its LONG's first, second or third one.
        script("16: LONG reads first", "LONG 0 1", "SET 0 5").due("race 0 1 = 0");
        script("16: LONG and LONG: read and read, then read and write", "LONG 0 1", "LONG 0 1").due("race 0 1 = 3; race 1 0 = 3");
        script("16: LONG writes last", "LONG 0 1", "TAKE 0").due("race 0 1 = 3");
        script("16: LONG does nothing between", "LONG 0 1, UNTIL 0 9", "UNTIL 1 1, SET 0 5", "MEET").due("race 0 1 = -2");
        script("16: LONG does nothing between, the other one writes", "LONG 0 1", "UNTIL 1 1, TAKE 0, SET 2 2", "SET 1 1").due("race 0 1 = 11");
    }

    private static void raceOfTheSamePlace() {
        for (int p = 0; p < 4; p++) {
            for (int q = 0; q < 4; q++) {
                script("16: one place, the same", "SET " + p + " 1", "TAKE " + q).due("race 0 1 = " + (p == q ? 0 : -2));
            }
        }
        script("16: a lock's number is no place", "ENTER 0, LEAVE 0", "SET 0 1, TEST 0").due("race 0 1 = -2");
    }

    private static void raceWhereBothCanStep() {
        script("16: both can step", "UNTIL 0 1", "SET 0 5").due("race 0 1 = -2");
        script("16: both can step at last", "UNTIL 0 1", "SET 0 1, SET 0 2").due("race 0 1 = 1");
        script("16: ended ones don't", "SET 0 1", "").due("race 0 1 = -2");
        script("16: failed ones don't", "LEAVE 0, SET 0 1", "UNTIL 1 1, SET 0 1", "MEET, SET 1 1").due("race 0 1 = -2");
        script("16: behind a lock they don't", "ENTER 0, SET 0 1, LEAVE 0", "ENTER 0, SET 0 1, LEAVE 0").due("race 0 1 = -2");
    }

    private static void raceIsTheFirst() {
        script("16: the first state", "ADD 1, SET 0 1", "ADD 1, SET 0 1").due("race 0 1 = 4; race 1 0 = 4");
        script("16: no state but those there are", "UNTIL 0 0", "SET 0 2").after("value 0 1").due("race 0 1 = -2; race 1 0 = -2; states 0 = 2");
        script("16: the first of several", "SET 0 1, SET 0 2", "SET 0 3, SET 0 4").due("race 0 1 = 0");
    }

    // Promise 17

    private static void alwaysOutOfRange() {
        script("17: -1", "SET 0 1", "ADD 1, ADD 1").due(
            "always -1 0 0 0 = -1; always 2 0 0 0 = -1; always 0 1 0 0 = -1; always 0 -1 0 0 = -1; always 1 2 0 0 = -1; always 1 1 0 9 = 2;"
            + "always 0 0 -1 0 = -1; always 0 0 4 0 = -1; always 0 0 0 -1 = -1; always 0 0 0 10 = -1; always 0 0 3 9 = 0;"
            + "always MIN MIN MIN MIN = -1; always MAX MAX MAX MAX = -1; always 0 MAX 0 0 = -1; always 0 0 MAX 0 = -1; always 0 0 0 MAX = -1");
    }

    private static void alwaysIsTheFirst() {
        script("17: the first state", "ADD 1", "SET 2 3, SET 2 4").due(
            "always 0 0 2 0 = 2; always 0 0 2 3 = 0; always 0 0 2 9 = 0; always 1 0 2 0 = -2; always 1 1 2 3 = -2; always 1 1 2 0 = 2;"
            + "always 0 0 1 0 = -2; always 0 0 1 1 = 0");
    }

    private static void alwaysOfStatesThereAre() {
        script("17: no state but those there are", "ADD 1", "ADD 1").after("value 0 5; value 3 9").due(
            "always 0 0 0 5 = -2; always 1 0 3 9 = -2; always 0 0 0 0 = 0; always 0 0 3 0 = 0");
    }

    private static void alwaysWithNoStepMade() {
        script("17: none of its steps made", "LONG 0 1", "UNTIL 1 1, SET 0 5", "ADD 1").due("always 0 0 0 0 = -2");
        script("17: none of its steps made, of a LONG", "LONG 0 1, ADD 0", "SET 0 5").due("always 0 0 0 0 = 2; always 0 0 0 5 = 0; always 0 1 0 1 = 10");
        script("17: none of its steps made, of a WAIT", "ENTER 0, SET 1 1, WAIT 0", "UNTIL 1 1, ENTER 0, SET 0 7").due(
            "always 0 2 0 0 = -2; count 1 = 1");
        script("17: the third step of a LONG isn't at it", "LONG 0 1, ADD 0").due("always 0 0 0 0 = -2; always 0 1 0 1 = -2; always 0 1 0 0 = 3");
    }

    private static void alwaysWhereAHandNeverIs() {
        script("17: a statement nobody comes to", "JUMP 2, ADD 1, ADD 2").due("always 0 1 0 9 = -2; always 0 2 0 9 = 1");
        script("17: ended is no statement", "ADD 1", "UNTIL 0 0, SET 0 5").due("always 0 0 0 0 = 4; always 1 1 0 0 = -2");
        script("17: failed is no statement", "LEAVE 0", "SET 0 1").due("always 0 0 0 0 = 2; always 1 0 0 0 = -2");
    }

    // Promise 18

    private static void canOutOfRange() {
        script("18: -1", "SET 0 1").due(
            "can -1 0 0 = -1; can 5 0 0 = -1; can MIN 0 0 = -1; can MAX 0 0 = -1; can 0 -1 0 = -1; can 0 4 0 = -1; can 0 MAX 0 = -1;"
            + "can 0 0 -1 = -1; can 0 0 10 = -1; can 0 0 MIN = -1; can 4 3 9 = 0; can 0 0 0 = 0; can 0 0 1 = 1; can 4 0 1 = 1; can 0 3 0 = 1");
    }

    private static void canOfEndsAlone() {
        script("18: an end has it, not a state on the way", "SET 0 5, SET 0 6").due("can 0 0 5 = 0; can 0 0 6 = 1; can 0 0 0 = 0");
        script("18: a stuck state is no end", "SET 0 5, UNTIL 1 1").due("can 0 0 5 = 0; can 0 0 0 = 0; can 0 1 0 = 0");
        script("18: no end at all", "JUMP 0").due("can 0 0 0 = 0; can 1 0 0 = 0; can 2 0 0 = 0; can 3 0 0 = 0; can 4 0 0 = 0");
        script("18: failed ones end, too", "SET 3 9, LEAVE 0").due("can 0 3 9 = 1; can 0 3 0 = 0");
        Script x = script("18: 0 to 9 at each place", "SET 0 0, SET 1 9, SET 2 4, SET 3 5");
        int[] ends = {0, 9, 4, 5};
        for (int p = 0; p < 4; p++) {
            for (int n = 0; n < 10; n++) {
                x.due("can 0 " + p + " " + n + " = " + (ends[p] == n ? 1 : 0));
            }
        }
    }
}
