/** Boundary cases of promises 21 to 24, a sentence of the document each. */
public final class EdgeLearnerTest {
    private static final Check CHECK = new Check();
    private static final String TWENTY_FIVE = Script.times(8, "LONG 0 0");
    private static final String TEN = Script.times(3, "LONG 1 0");

    public static void main(String[] args) {
        answerOutOfRange();
        answerAtTheEdges();
        answersFromNoneToForty();
        theLatestToldCounts();
        answersOfYesAndNo();
        costOutOfRange();
        costFromNoneToForty();
        costOfEachPicture();
        explainOfNoAnswers();
        explainOfOneAndOfSeveral();
        nextOfNoAnswers();
        nextDividesBest();
        nextOfThePicturesOfTheLeastCost();
        nextIsTheLeastOfLikeOnes();
        nextHasNoAnswer();
        nextOfTheLastOne();
        nextOfAll();
        spentOfWholeAlone();
        spentOfTurnsAlone();
        spentOfOpenAlone();
        spentOfTrue();
        wrongStandsAheadOfSpent();
        allAnswersStandAheadOfSpent();
        CHECK.end();
    }

    private static Script script(String sentence, String... hands) {
        return new Script(CHECK, sentence, hands);
    }

    /** Answers to all questions, of which those above 10 p + n come last. */
    private static Script answered(Script x, String yes, int from, int to) {
        for (int k = from; k < to; k++) {
            x.after("answer " + k / 10 + " " + k % 10 + " " + yes);
        }
        return x;
    }

    // Promise 21

    private static void answerOutOfRange() {
        script("21: -1").due(
            "answer -1 0 yes = -1; answer 4 0 yes = -1; answer MIN 0 no = -1; answer MAX 0 no = -1; answer 0 -1 yes = -1; answer 0 10 yes = -1;"
            + "answer 0 MIN no = -1; answer 0 MAX no = -1; answer 4 10 yes = -1; answer 0 0 yes = 1; answer 4 0 yes = -1; cost 0 = 0");
    }

    private static void answerAtTheEdges() {
        script("21: p 0 .. 3, n 0 .. 9").due("answer 0 0 yes = 1; answer 0 9 yes = 2; answer 3 0 yes = 3; answer 3 9 yes = 4; cost 0 = 2; cost 4 = 2");
    }

    private static void answersFromNoneToForty() {
        Script x = script("21: how many there are", "LONG 0 1", "LONG 0 1");
        for (int k = 0; k < 40; k++) {
            x.due("answer " + k / 10 + " " + k % 10 + " no = " + (k + 1));
        }
        x.due("answer 0 0 yes = 40; answer 3 9 no = 40; answer 3 10 no = -1; answer 4 0 no = -1; answer 2 5 yes = 40");
    }

    private static void theLatestToldCounts() {
        script("21: the latest told counts", "SET 0 1").due(
            "answer 0 1 no = 1; cost 0 = 1; answer 0 1 no = 1; cost 0 = 1; answer 0 1 yes = 1; cost 0 = 0; answer 0 2 yes = 2; cost 0 = 1;"
            + "answer 0 2 no = 2; cost 0 = 0; answer 0 1 no = 2; cost 0 = 1");
    }

    private static void answersOfYesAndNo() {
        script("21: yes, or no", "SET 3 9").due(
            "answer 3 9 yes = 1; cost 0 = 0; answer 3 0 no = 2; cost 0 = 0; answer 3 8 yes = 3; cost 0 = 1; answer 0 0 no = 4; cost 0 = 2");
    }

    // Promise 22

    private static void costOutOfRange() {
        script("22: -1").due("cost -1 = -1; cost 5 = -1; cost MIN = -1; cost MAX = -1; cost 0 = 0; cost 4 = 0");
    }

    private static void costFromNoneToForty() {
        Script x = script("22: how many answers are otherwise, from none", "SET 0 9, SET 3 9");
        x.due("cost 0 = 0; cost 1 = 0; cost 2 = 0; cost 3 = 0; cost 4 = 0");
        for (int k = 0; k < 40; k++) {
            boolean can = k == 9 || k == 10 || k == 20 || k == 39;
            x.after("answer " + k / 10 + " " + k % 10 + " " + (can ? "no" : "yes"));
            x.due("cost 0 = " + (k + 1));
        }
        x.due("cost 1 = 40; cost 2 = 40; cost 3 = 40; cost 4 = 40; explain = 31; next = -2");
    }

    private static void costOfEachPicture() {
        // By TRUE and OPEN 1 or 2, by WHOLE and SHORT 2, by TURNS 1.
        script("22: otherwise by it", "LONG 0 1", "LONG 0 1").due(
            "answer 0 1 yes = 1; cost 0 = 0; cost 1 = 1; cost 2 = 0; cost 3 = 1; cost 4 = 0;"
            + "answer 0 2 no = 2; cost 0 = 1; cost 1 = 2; cost 2 = 0; cost 3 = 2; cost 4 = 1");
    }

    // Promise 23

    private static void explainOfNoAnswers() {
        script("23: all cost 0").due("explain = 31");
        script("23: all cost the same").due("answer 0 0 no = 1; explain = 31; cost 0 = 1; answer 3 9 yes = 2; explain = 31");
    }

    private static void explainOfOneAndOfSeveral() {
        script("23: as bits", "LONG 0 1", "LONG 0 1").due(
            "answer 0 2 no = 1; explain = 4; answer 0 2 yes = 1; explain = 27; answer 0 1 yes = 2; explain = 17; answer 0 1 no = 2; explain = 10");
        script("23: OPEN alone", "ENTER 0, ENTER 0, SET 0 1").due("answer 0 1 yes = 1; explain = 16; answer 0 1 no = 1; explain = 15");
        script("23: WHOLE and SHORT", "LONG 0 1", "LONG 0 1, TAKE 1").due("answer 0 2 yes = 1; answer 0 1 no = 2; explain = 10");
    }

    // Promise 24

    private static void nextOfNoAnswers() {
        script("24: the least of all").due("next = 0; next = 0");
        script("24: the best of all", "LONG 3 1", "LONG 3 1").due("next = 31; answer 3 1 no = 1; next = 0");
    }

    private static void nextDividesBest() {
        // 0 1: 3 of 5 say yes; 0 2: 4 of 5 do.
        script("24: the greater part is least", "LONG 0 1", "LONG 0 1").due("next = 1; answer 0 1 yes = 1; next = 2; answer 0 2 yes = 2; next = 0");
        script("24: the greater part may say no", "ENTER 0, ENTER 0, SET 0 1").due("next = 1; answer 0 1 no = 1; explain = 15; next = 0; answer 0 1 yes = 1; explain = 16; next = 0");
    }

    private static void nextOfThePicturesOfTheLeastCost() {
        // Behind 0 2 no it is TURNS alone: nothing divides one.
        script("24: of the pictures of the least cost", "LONG 0 1", "LONG 0 1").due("answer 0 2 no = 1; explain = 4; next = 0; answer 0 0 no = 2; next = 1");
        script("24: not of the others", "LONG 0 1", "LONG 0 1").due("answer 0 1 no = 1; explain = 10; next = 0");
    }

    private static void nextIsTheLeastOfLikeOnes() {
        script("24: p first", "LONG 0 1, LONG 3 1", "LONG 0 1, LONG 3 1").due("next = 1");
        script("24: the least n of like ones", "TAKE 0, GIVE 2, SET 0 1", "TAKE 0, GIVE 3, SET 0 1").due("next = 21");
    }

    private static void nextHasNoAnswer() {
        Script x = script("24: without an answer");
        for (int k = 0; k < 40; k++) {
            x.due("next = " + k + "; answer " + k / 10 + " " + k % 10 + " no = " + (k + 1));
        }
        x.due("next = -2; answer 0 0 yes = 40; next = -2");
    }

    private static void nextOfTheLastOne() {
        answered(script("24: the last one", "LONG 0 1", "LONG 0 1"), "yes", 0, 39).due("next = 39; answer 3 9 yes = 40; next = -2");
        answered(script("24: the first one is left", "LONG 0 1", "LONG 0 1"), "yes", 1, 40).due("next = 0; answer 0 0 yes = 40; next = -2");
    }

    private static void nextOfAll() {
        answered(script("24: answers that were taken away", "LONG 0 1", "LONG 0 1"), "no", 0, 40).due(
            "next = -2; value 3 0 = 0; next = -2; value 3 1 = 0; next = 1; answer 0 0 yes = 1");
    }

    // "-5: some PICTURE is SPENT"

    private static void spentOfWholeAlone() {
        // 140 rounds, between which three hands meet: who led it is told by WHOLE.
        script("22: WHOLE alone is spent", "LONG 0 1, TAKE 3, MEET, JUMP 0", Script.times(7, "MEET") + ", JUMP 0",
            "MEET, ADD 0, MEET, ADD 0, MEET, ADD 0, MEET, JUMP 0").due(
            "states 0 = 1920; states 1 = -5; states 2 = 1001; states 4 = 1920; cost 0 = -5; cost 1 = -5; cost 2 = -5; cost 3 = -5; cost 4 = -5;"
            + "explain = -5; next = -5; answer 0 0 yes = 1; can 0 0 0 = 0; can 1 0 0 = -5");
    }

    private static void spentOfTurnsAlone() {
        script("22: TURNS alone is spent", "LONG 0 0, LONG 0 0, ADD 0, ADD 0, JUMP 0", "LONG 0 0, LONG 0 0, LONG 0 0, JUMP 0",
            "LONG 0 0, LONG 0 0, LONG 0 0, ADD 0, JUMP 0").due(
            "states 0 = 990; states 1 = 31; states 2 = -5; states 3 = 100; states 4 = 990; cost 0 = -5; cost 2 = -5; explain = -5; next = -5;"
            + "uncode 2 = 4; explain = 31; next = 0; cost 2 = 0");
    }

    private static void spentOfOpenAlone() {
        script("22: OPEN alone is spent", TWENTY_FIVE, TEN, "ENTER 0, ENTER 0, " + Script.times(6, "ADD 0")).due(
            "states 0 = 500; states 1 = 137; states 4 = -5; cost 0 = -5; cost 4 = -5; explain = -5; next = -5; uncode 2 = 7; states 4 = 2000; cost 0 = 0;"
            + "cost 4 = 0; explain = 31; next = 0");
    }

    private static void spentOfTrue() {
        script("22: TRUE is spent", TWENTY_FIVE, TEN, Script.times(8, "ADD 0")).due(
            "cost 0 = -5; cost 1 = -5; cost 2 = -5; cost 3 = -5; cost 4 = -5; explain = -5; next = -5; answer 0 0 no = 1; answer 3 9 yes = 2;"
            + "cost 3 = -5; uncode 2 = 7; explain = 31; answer 0 0 no = 1; cost 0 = 1");
    }

    private static void wrongStandsAheadOfSpent() {
        script("22: -1 ahead of -5", TWENTY_FIVE, TEN, Script.times(8, "ADD 0")).due("cost -1 = -1; cost 5 = -1; answer 4 0 yes = -1; cost 0 = -5");
    }

    private static void allAnswersStandAheadOfSpent() {
        answered(script("24: -2 ahead of -5", TWENTY_FIVE, TEN, Script.times(8, "ADD 0")), "no", 0, 39).due(
            "next = -5; answer 3 9 no = 40; next = -2; explain = -5; cost 0 = -5");
    }
}
