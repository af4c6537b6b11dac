/** Boundary cases of promises 25 to 30, a sentence of the document each. */
public final class EdgeShelfTest {
    private static final Check CHECK = new Check();
    private static final String NO_ELEMENT = " = IllegalStateException";
    private static final String NO_SHELF = " = IllegalArgumentException";
    private static final String[] FAR = {"-1", "8", "MIN", "MAX"};

    public static void main(String[] args) {
        noSuchShelf();
        shelvesZeroToSeven();
        keepOfNoSuchThing();
        keepOfNothing();
        keepOfStatements();
        keepOfTheRun();
        keepOfKinds();
        keepTakesWhatIsThereNow();
        whatIsNotUsedIsAny();
        makeFromNoneToSixty();
        makeBelowZero();
        makeOfNoRow();
        elementsFromFirstToLast();
        elementsOfNoRow();
        copyFromNoneToAll();
        copyWithinOneRow();
        copyOfNothingHeld();
        copyOfOtherKinds();
        copyOfPlacesItHasNot();
        copyWrapsNowhere();
        copyRefusalsInTheirOrder();
        copiesAreTheirOwn();
        weightOfEachKind();
        weightRefusals();
        tossOfEachKind();
        tossRefusals();
        CHECK.end();
    }

    private static Script script(String sentence, String... hands) {
        return new Script(CHECK, sentence, hands);
    }

    /** The elements of a row, and that it has no more. */
    private static Script row(Script x, int d, int... elements) {
        for (int i = 0; i < elements.length; i++) {
            x.due("element " + d + " " + i + " = " + elements[i]);
        }
        return x.due("element " + d + " " + elements.length + NO_ELEMENT + "; element " + d + " -1" + NO_ELEMENT);
    }

    // "SHELVES 0 .. 7"

    private static void noSuchShelf() {
        for (String d : FAR) {
            Script x = script("no shelf " + d, "ENTER 0");
            x.after("make 0 3 2; make 7 3 2");
            for (int what : new int[] {0, 1, 3, 4}) {
                x.due("keep " + d + " " + what + " 0 0 = -1");
            }
            x.due("make " + d + " 3 0 = -1; make " + d + " 4 60 = -1; element " + d + " 0" + NO_SHELF + "; element " + d + " -1" + NO_SHELF
                + "; copy " + d + " 0 0 0 0 = -1; copy 0 0 " + d + " 0 0 = -1; weight " + d + " = -1; toss " + d + " = -1");
        }
    }

    private static void shelvesZeroToSeven() {
        Script x = script("shelves are apart", "ENTER 0, ENTER 1, ENTER 2, LEAVE 0, LEAVE 1, WAIT 2, CALL 0, CALL 2");
        for (int d = 0; d < 8; d++) {
            x.due("keep " + d + " 1 0 " + d + " = 0");
        }
        int[] locks = {0, 1, 2, 0, 1, 2, 0, 2};
        int[] weights = {1009, 1009, 1009, 1010, 1010, 2022, 1012, 1012};
        for (int d = 0; d < 8; d++) {
            x.due("toss " + d + " = " + locks[d] + "; weight " + d + " = " + weights[d]);
        }
        x.due("keep 3 0 0 0 = 0; toss 2 = 2; toss 3 = -11; toss 4 = 1; make 7 4 1 = 0; toss 7 = -12; toss 6 = 0; toss 0 = 0");
    }

    // Promise 25

    private static void keepOfNoSuchThing() {
        Script x = script("25: -1", "ADD 1, ENTER 2", "");
        x.after("keep 0 1 0 1");
        for (String what : new String[] {"-1", "2", "5", "MIN", "MAX"}) {
            x.due("keep 0 " + what + " 0 0 = -1");
        }
        x.due("keep 0 1 0 2 = -1; keep 0 1 0 -1 = -1; keep 0 1 0 MIN = -1; keep 0 1 0 MAX = -1; keep 0 1 1 0 = -1; keep 0 1 2 0 = -1;"
            + "keep 0 1 -1 0 = -1; keep 0 1 MAX 0 = -1; keep 0 4 2 0 = -1; keep 0 4 -1 0 = -1; keep 0 4 MIN 0 = -1; toss 0 = 2");
    }

    private static void keepOfNothing() {
        script("25: nothing", "ENTER 1").due(
            "keep 0 0 0 0 = 0; weight 0 = -11; keep 0 1 0 0 = 0; weight 0 = 1009; keep 0 0 0 0 = 0; weight 0 = -11; toss 0 = -11;"
            + "element 0 0" + NO_ELEMENT + "; copy 0 0 0 0 0 = -11; keep 0 0 0 0 = 0");
    }

    private static void keepOfStatements() {
        script("25: the first and the last statement", "SET 0 0, ADD 0, ADD 0, ADD 0, ADD 0, ADD 0, ADD 0, WAIT 2", "", "ENTER 1").due(
            "keep 0 1 0 0 = 0; keep 7 1 0 7 = 0; keep 1 1 0 8 = -1; weight 0 = 11; weight 7 = 2022; toss 7 = 2; toss 0 = -15;"
            + "keep 1 1 2 0 = 0; toss 1 = 1; keep 1 1 1 0 = -1; toss 1 = 1");
    }

    private static void keepOfTheRun() {
        row(script("25: places, then registers").due("keep 0 3 0 0 = 0"), 0, 0, 0, 0, 0, 0);
        row(script("25: of two hands", "ADD 9", "TAKE 3").after("value 0 9; value 3 8; go 0; go 1").due("keep 7 3 0 0 = 0"), 7, 9, 0, 0, 8, 9, 8);
        row(script("25: of three hands", "SET 1 1", "ADD 2", "SET 2 3, ADD 4").after("go 0; go 1; go 2; go 2").due("keep 0 3 0 0 = 0"),
            0, 0, 1, 3, 0, 0, 2, 4);
    }

    private static void keepOfKinds() {
        row(script("25: no kinds", "", "ADD 1").due("keep 0 4 0 0 = 0"), 0);
        row(script("25: one kind", "", "MEET").due("keep 0 4 1 0 = 0"), 0, 12);
        row(script("25: eight kinds", "SET 0 0, TAKE 0, GIVE 0, ADD 0, JUMP 0, UNTIL 0 0, LONG 0 0, TEST 0").due("keep 0 4 0 0 = 0"),
            0, 0, 1, 2, 3, 4, 5, 6, 7);
        row(script("25: the last kinds", "ENTER 0, LEAVE 0, WAIT 0, CALL 0, MEET").due("keep 0 4 0 0 = 0"), 0, 8, 9, 10, 11, 12);
    }

    private static void keepTakesWhatIsThereNow() {
        Script x = script("25: as it is now", "ENTER 1, ADD 5", "MEET").after("value 2 4; keep 0 1 0 0; keep 1 3 0 0; keep 2 4 0 0");
        x.due("puzzle 3 = 3; value 2 9 = 0; toss 0 = 1; weight 0 = 1009");
        row(row(x, 1, 0, 0, 4, 0, 0, 0), 2, 8, 3);
        Script run = script("25: the run goes on, the row doesn't", "SET 0 5, ADD 1").after("keep 0 3 0 0; go 0; keep 1 3 0 0; go 0; start");
        row(row(run, 0, 0, 0, 0, 0, 0), 1, 5, 0, 0, 0, 0);
    }

    private static void whatIsNotUsedIsAny() {
        script("25: what isn't used is any", "ENTER 1").due(
            "keep 0 0 MIN MAX = 0; keep 0 3 MIN MAX = 0; element 0 4 = 0; keep 0 3 MAX MIN = 0; keep 0 4 0 MIN = 0; element 0 0 = 8;"
            + "keep 0 4 0 MAX = 0; keep 0 0 -1 -1 = 0; weight 0 = -11");
    }

    // Promise 26

    private static void makeFromNoneToSixty() {
        script("26: n up to 60").due(
            "make 0 3 60 = 0; element 0 0 = 0; element 0 59 = 0; element 0 60" + NO_ELEMENT + "; make 0 3 61 = -1; element 0 59 = 0;"
            + "make 0 4 61 = -1; make 0 3 MAX = -1; make 0 4 MAX = -1; element 0 59 = 0;"
            + "make 1 4 60 = 0; element 1 0 = 0; element 1 59 = 0; element 1 60" + NO_ELEMENT);
        script("26: none").due("make 0 3 0 = 0; element 0 0" + NO_ELEMENT + "; weight 0 = -12; make 0 4 0 = 0; element 0 0" + NO_ELEMENT
            + "; weight 0 = -12; copy 0 0 0 0 0 = 0");
        script("26: one").due("make 7 3 1 = 0; element 7 0 = 0; element 7 1" + NO_ELEMENT + "; make 7 4 1 = 0; element 7 0 = 0");
    }

    private static void makeBelowZero() {
        script("26: -14").due("make 0 3 -1 = -14; make 0 4 -1 = -14; make 0 3 MIN = -14; make 0 4 MIN = -14; weight 0 = -11;"
            + "make 0 3 2 = 0; make 0 3 -1 = -14; element 0 1 = 0");
        script("26: -1 ahead of -14").due("make -1 3 -1 = -1; make 8 4 -1 = -1; make 0 2 -1 = -1; make 0 5 -1 = -1; make 0 1 MIN = -1");
    }

    private static void makeOfNoRow() {
        script("26: longs or shorts").due("make 0 0 1 = -1; make 0 1 1 = -1; make 0 2 1 = -1; make 0 5 1 = -1; make 0 -1 1 = -1; make 0 MIN 1 = -1;"
            + "make 0 MAX 1 = -1; weight 0 = -11");
        script("26: another row, all 0", "ADD 1").due("keep 0 4 0 0 = 0; element 0 0 = 3; make 0 4 1 = 0; element 0 0 = 0");
    }

    // Promise 27

    private static void elementsFromFirstToLast() {
        script("27: from 0", "MEET, ADD 0, CALL 0").due(
            "keep 0 4 0 0 = 0; element 0 0 = 12; element 0 1 = 3; element 0 2 = 11; element 0 3" + NO_ELEMENT + "; element 0 -1" + NO_ELEMENT
            + "; element 0 MIN" + NO_ELEMENT + "; element 0 MAX" + NO_ELEMENT);
        script("27: of longs").after("value 0 1; value 3 9").due(
            "keep 0 3 0 0 = 0; element 0 0 = 1; element 0 3 = 9; element 0 4 = 0; element 0 5" + NO_ELEMENT + "; element 0 -1" + NO_ELEMENT
            + "; element 0 MIN" + NO_ELEMENT + "; element 0 MAX" + NO_ELEMENT);
    }

    private static void elementsOfNoRow() {
        script("27: nothing is held, or no row", "ENTER 0").due(
            "element 0 0" + NO_ELEMENT + "; element 7 0" + NO_ELEMENT + "; element 0 -1" + NO_ELEMENT + "; keep 0 1 0 0 = 0; element 0 0" + NO_ELEMENT
            + "; element 0 MAX" + NO_ELEMENT + "; weight 0 = 1009; element 8 0" + NO_SHELF + "; element -1 0" + NO_SHELF);
    }

    // Promise 28

    private static Script fiveAndThree(String sentence) {
        return script(sentence, "TAKE 0, GIVE 0, ADD 0, JUMP 0, UNTIL 0 0", "ENTER 0, LEAVE 0, WAIT 0").after("keep 0 4 0 0; keep 1 4 1 0");
    }

    private static void copyFromNoneToAll() {
        row(fiveAndThree("28: none").due("copy 0 0 1 0 0 = 0; copy 0 5 1 3 0 = 0; copy 1 3 0 5 0 = 0"), 1, 8, 9, 10);
        row(fiveAndThree("28: all of the target").due("copy 0 0 1 0 3 = 3"), 1, 1, 2, 3);
        row(fiveAndThree("28: the last of the source").due("copy 0 2 1 0 3 = 3"), 1, 3, 4, 5);
        row(fiveAndThree("28: the last to the first").due("copy 0 4 1 0 1 = 1"), 1, 5, 9, 10);
        row(fiveAndThree("28: the first to the last").due("copy 0 0 1 2 1 = 1"), 1, 8, 9, 1);
        row(fiveAndThree("28: all of the source").due("copy 1 0 0 2 3 = 3"), 0, 1, 2, 8, 9, 10);
        row(fiveAndThree("28: the source stays").due("copy 1 0 0 2 3 = 3"), 1, 8, 9, 10);
        script("28: all 60 of longs").after("value 0 7; keep 1 3 0 0; make 0 3 60; make 7 3 60").due(
            "copy 1 0 0 55 5 = 5; element 0 55 = 7; copy 0 0 7 0 60 = 60; element 7 55 = 7; element 7 54 = 0; copy 0 0 7 0 61 = -13");
    }

    private static void copyWithinOneRow() {
        row(fiveAndThree("28: as they all were before, to the right").due("copy 0 0 0 1 4 = 4"), 0, 1, 1, 2, 3, 4);
        row(fiveAndThree("28: as they all were before, to the left").due("copy 0 1 0 0 4 = 4"), 0, 2, 3, 4, 5, 5);
        row(fiveAndThree("28: onto itself").due("copy 0 0 0 0 5 = 5"), 0, 1, 2, 3, 4, 5);
        row(fiveAndThree("28: by two").due("copy 0 0 0 2 3 = 3"), 0, 1, 2, 1, 2, 3);
        Script x = script("28: longs, to the right").after("value 0 1; value 1 2; value 2 3; value 3 4; keep 0 3 0 0");
        row(x.due("copy 0 0 0 1 4 = 4"), 0, 1, 1, 2, 3, 4);
        row(x.due("copy 0 1 0 0 4 = 4"), 0, 1, 2, 3, 4, 4);
    }

    private static void copyOfNothingHeld() {
        script("28: -11 of either", "ADD 0").after("make 0 3 2; make 1 4 2; keep 2 1 0 0").due(
            "copy 3 0 0 0 0 = -11; copy 0 0 3 0 0 = -11; copy 3 0 4 0 0 = -11; copy 3 0 3 0 0 = -11; copy 3 0 2 0 0 = -11; copy 2 0 3 0 0 = -11;"
            + "copy 1 0 7 0 0 = -11");
    }

    private static void copyOfOtherKinds() {
        script("28: -12", "ADD 0").after("make 0 3 2; make 1 4 2; keep 2 1 0 0").due(
            "copy 0 0 1 0 0 = -12; copy 1 0 0 0 0 = -12; copy 2 0 0 0 0 = -12; copy 0 0 2 0 0 = -12; copy 2 0 1 0 0 = -12; copy 1 0 2 0 0 = -12;"
            + "copy 2 0 2 0 0 = -12; copy 0 0 0 0 0 = 0; copy 1 0 1 0 0 = 0");
    }

    private static void copyOfPlacesItHasNot() {
        for (int what : new int[] {3, 4}) {
            Script x = script("28: -13 of " + (what == 3 ? "longs" : "shorts")).after("make 0 " + what + " 5; make 1 " + what + " 3; make 2 " + what + " 0");
            x.due("copy 0 0 1 0 -1 = -13; copy 0 -1 1 0 1 = -13; copy 0 0 1 -1 1 = -13; copy 0 -1 1 0 0 = -13; copy 0 0 1 -1 0 = -13;"
                + "copy 0 0 1 0 4 = -13; copy 1 0 0 0 4 = -13; copy 0 3 1 0 3 = -13; copy 0 2 1 0 3 = 3; copy 0 0 1 1 3 = -13; copy 0 0 1 1 2 = 2;"
                + "copy 0 5 1 0 1 = -13; copy 0 5 1 0 0 = 0; copy 0 6 1 0 0 = -13; copy 0 0 1 3 0 = 0; copy 0 0 1 4 0 = -13; copy 0 0 1 3 1 = -13;"
                + "copy 2 0 2 0 0 = 0; copy 2 0 2 0 1 = -13; copy 2 1 2 0 0 = -13; copy 2 0 0 5 0 = 0; copy 0 0 2 0 1 = -13; copy 0 1 0 2 4 = -13");
        }
    }

    private static void copyWrapsNowhere() {
        for (int what : new int[] {3, 4}) {
            script("28: -13 however great").after("make 0 " + what + " 5; make 1 " + what + " 3").due(
                "copy 0 MAX 1 0 1 = -13; copy 0 0 1 MAX 1 = -13; copy 0 0 1 0 MAX = -13; copy 0 1 1 1 MAX = -13; copy 0 MAX 1 MAX MAX = -13;"
                + "copy 0 MIN 1 0 1 = -13; copy 0 0 1 MIN 1 = -13; copy 0 0 1 0 MIN = -13; copy 0 MIN 1 MIN MIN = -13; copy 0 MIN 1 0 MAX = -13;"
                + "copy 0 MAX 1 0 MIN = -13; copy 0 MAX 1 0 0 = -13; copy 0 0 1 MAX 0 = -13");
        }
    }

    private static void copyRefusalsInTheirOrder() {
        script("28: -1, -11, -12, -13", "ADD 0").after("make 0 3 2; make 1 4 2; keep 2 1 0 0").due(
            "copy 8 -1 3 -1 -1 = -1; copy 3 -1 8 -1 -1 = -1; copy 2 -1 -1 0 0 = -1; copy 3 -1 2 -1 -1 = -11; copy 2 -1 3 -1 -1 = -11;"
            + "copy 0 -1 1 -1 -1 = -12; copy 2 -1 0 -1 -1 = -12; copy 0 9 0 9 9 = -13");
    }

    private static void copiesAreTheirOwn() {
        Script x = fiveAndThree("28: a row is its own").after("keep 2 4 0 0").due("copy 1 0 2 0 3 = 3");
        row(row(row(x, 0, 1, 2, 3, 4, 5), 1, 8, 9, 10), 2, 8, 9, 10, 4, 5);
        x.due("copy 0 0 1 0 3 = 3");
        row(x, 2, 8, 9, 10, 4, 5).due("told 0 0 0 = 1; told 1 0 0 = 8");
    }

    // Promises 29 and 30

    private static void weightOfEachKind() {
        String[] rows = {"SET 0 9", "TAKE 3", "GIVE 0", "ADD 9", "JUMP 8", "UNTIL 3 9", "LONG 0 0", "TEST 3", "ENTER 0", "LEAVE 2", "WAIT 0", "CALL 2", "MEET"};
        int[] weights = {11, 12, 13, 4, 5, 16, 117, 236, 1009, 1010, 2022, 1012, 13};
        for (int k = 0; k < rows.length; k++) {
            script("29: of " + rows[k], rows[k]).due("keep 7 1 0 0 = 0; weight 7 = " + weights[k] + "; weight 7 = " + weights[k]);
        }
    }

    private static void weightRefusals() {
        script("29: -1, -11, -12").after("make 1 3 1; make 2 4 0").due("weight -1 = -1; weight 8 = -1; weight 0 = -11; weight 1 = -12; weight 2 = -12");
    }

    private static void tossOfEachKind() {
        String[] kinds = {"SET", "TAKE", "GIVE", "ADD", "JUMP", "UNTIL", "LONG", "TEST", "ENTER", "LEAVE", "WAIT", "CALL", "MEET"};
        for (int k = 0; k < kinds.length; k++) {
            for (int a = 0; a < 3; a++) {
                String lock = k >= 8 && k <= 11 ? Integer.toString(a) : "-15";
                script("30: of " + kinds[k]).due("code 0 " + k + " " + a + " " + a + " = 0; keep 0 1 0 0 = 0; toss 0 = " + lock + "; toss 0 = " + lock);
            }
        }
    }

    private static void tossRefusals() {
        script("30: -1, -11, -12, -15", "MEET").after("make 1 3 1; make 2 4 0; keep 3 1 0 0").due(
            "toss -1 = -1; toss 8 = -1; toss 0 = -11; toss 1 = -12; toss 2 = -12; toss 3 = -15; weight 3 = 13");
    }
}
