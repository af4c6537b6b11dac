/** Boundary cases of promises 1 to 6, a sentence of the document each. */
public final class EdgePuzzleTest {
    private static final Check CHECK = new Check();
    private static final String[] KINDS = {"SET", "TAKE", "GIVE", "ADD", "JUMP", "UNTIL", "LONG", "TEST", "ENTER",
        "LEAVE", "WAIT", "CALL", "MEET"};
    /** By kind: how many places or locks its a can be; 0 where it is any. */
    private static final int[] OPERANDS = {4, 4, 4, 0, 0, 4, 4, 4, 3, 3, 3, 3, 0};
    /** By kind: how many its n can be; 0 where it is any. */
    private static final int[] NUMBERS = {10, 0, 0, 10, 9, 10, 10, 0, 0, 0, 0, 0, 0};

    public static void main(String[] args) {
        newObjectHasOneHandWithoutStatements();
        newObjectIsAtTheFirstState();
        newObjectHoldsNothing();
        handsOneToThree();
        puzzleTellsHowManyThereWere();
        puzzleIsEmptyAndAllPlacesAreZero();
        puzzleOfAsManyHandsIsNewToo();
        handsFromZeroToTheLast();
        eightStatementsAtMost();
        eachHandHasItsOwnEight();
        kindsZeroToTwelve();
        operandsWithinTheirBounds();
        numbersWithinTheirBounds();
        jumpTakesEightAndOthersNine();
        whatAKindHasNotIsAny();
        wrongStandsAheadOfFull();
        refusedCodeTakesNoPlace();
        uncodeFromEightToNone();
        uncodeTakesTheLastOfItsHand();
        uncodeOfNoHand();
        valueOfPlacesAndNumbers();
        valueTellsTheOneBefore();
        toldOfEachKind();
        toldOutOfRange();
        toldForgetsWhatAKindHasNot();
        CHECK.end();
    }

    private static Script script(String sentence, String... hands) {
        return new Script(CHECK, sentence, hands);
    }

    // Promise 1: "A PUZZLE of one HAND without STATEMENTS; THE RUN is at the first STATE."

    private static void newObjectHasOneHandWithoutStatements() {
        script("1: one hand without statements").due(
            "told 0 0 0 = -1; uncode 0 = -3; uncode 1 = -1; go 0 = 0; go 1 = -1; see 0 0 = 10; see 0 1 = -1;"
            + "see 3 0 = 0; code 1 3 0 1 = -1; puzzle 1 = 0");
        script("1: one hand can have a statement").due("code 0 3 0 1 = 0; code 1 3 0 1 = -1; go 0 = 1; puzzle 2 = 1");
    }

    private static void newObjectIsAtTheFirstState() {
        script("1: the run is at the first state").due(
            "start = 0; lead 0 = 0; see 1 0 = 0; see 2 0 = 0; see 4 0 = 0;"
            + "see 5 0 = 0; see 5 1 = 0; see 5 2 = 0; see 5 3 = 0; see 6 0 = -2; see 6 1 = -2; see 6 2 = -2");
        script("1: the first state is an end, and all there is").due(
            "states 0 = 1; states 1 = 1; states 2 = 1; states 3 = 1; states 4 = 1; count 0 = 1; count 1 = 0;"
            + "count 2 = 0; nth 0 0 = 0; nth 0 1 = -3; way 0 = 0; way 1 = -1; step 0 0 = -3; lead 1 = -1;"
            + "can 0 0 0 = 1; can 0 3 0 = 1; can 0 0 1 = 0; can 4 3 9 = 0; race 0 0 = -1; race 0 1 = -1;"
            + "always 0 0 0 0 = -1");
    }

    private static void newObjectHoldsNothing() {
        script("1: no answers, no fix").due(
            "explain = 31; cost 0 = 0; cost 4 = 0; next = 0; fixed 0 0 = -3; fixed 1 1 = -3; fix 0 0 0 = -3;"
            + "answer 0 0 no = 1");
        Script x = script("1: shelves hold nothing at first");
        for (int d = 0; d < 8; d++) {
            x.due("weight " + d + " = -11; toss " + d + " = -11; element " + d + " 0 = IllegalStateException;"
                + "copy " + d + " 0 " + d + " 0 0 = -11");
        }
    }

    // Promise 2, and "HANDS 0 .. h - 1 (h 1 .. 3)"

    private static void handsOneToThree() {
        script("2: h 1 .. 3").due(
            "puzzle 0 = -1; puzzle -1 = -1; puzzle 4 = -1; puzzle MIN = -1; puzzle MAX = -1;"
            + "puzzle 1 = 0; puzzle 2 = 0; puzzle 3 = 0");
    }

    private static void puzzleTellsHowManyThereWere() {
        String eight = Script.times(8, "MEET");
        script("2: how many there were, of all hands", eight, eight, eight).due("puzzle 1 = 24; puzzle 1 = 0");
        script("2: how many there were", "", "", "ADD 1").due("puzzle 2 = 1");
        script("2: how many there were", "ADD 1, ADD 1", "", "ADD 1").due("uncode 0 = 1; puzzle 3 = 2; puzzle 3 = 0");
    }

    private static void puzzleIsEmptyAndAllPlacesAreZero() {
        script("2: without statements, all places 0", "ADD 1", "ADD 1", "ADD 1")
            .after("value 0 9; value 1 1; value 2 5; value 3 9")
            .due("puzzle 3 = 3; see 5 0 = 0; see 5 1 = 0; see 5 2 = 0; see 5 3 = 0;"
                + "value 0 0 = 0; value 1 0 = 0; value 2 0 = 0; value 3 0 = 0;"
                + "see 0 0 = 10; see 0 1 = 10; see 0 2 = 10; told 0 0 0 = -1; told 1 0 0 = -1; told 2 0 0 = -1;"
                + "uncode 0 = -3; uncode 1 = -3; uncode 2 = -3; states 0 = 1");
        script("2: statements of hands that went don't come back", "ADD 1", "ADD 1", "ADD 1")
            .due("puzzle 1 = 3; told 0 0 0 = -1; puzzle 3 = 0; told 1 0 0 = -1; told 2 0 0 = -1; puzzle 3 = 0");
    }

    private static void puzzleOfAsManyHandsIsNewToo() {
        script("2: another puzzle, of as many hands", "ADD 1", "SET 0 1")
            .after("value 2 7; go 0; answer 0 0 yes")
            .due("puzzle 2 = 2; see 0 0 = 10; told 0 0 0 = -1; see 5 2 = 0; start = 0; answer 0 0 yes = 1");
    }

    private static void handsFromZeroToTheLast() {
        for (int h = 1; h <= 3; h++) {
            String[] hands = new String[h];
            java.util.Arrays.fill(hands, "UNTIL 0 0, ADD 1");
            for (int hand : new int[] {0, h - 1}) {
                script("hands 0 .. h - 1 of " + h, hands).due(
                    "told " + hand + " 1 0 = 3; see 0 " + hand + " = 0; go " + hand + " = 1; see 0 " + hand + " = 1;"
                    + "always " + hand + " 0 0 0 = -2; keep 0 4 " + hand + " 0 = 0; keep 0 1 " + hand + " 1 = 0;"
                    + "code " + hand + " 3 0 1 = 2; uncode " + hand + " = 2");
            }
            for (String hand : new String[] {"-1", Integer.toString(h), "MIN", "MAX"}) {
                Script x = script("no such hand of " + h, hands).due(
                    "told " + hand + " 0 0 = -1; go " + hand + " = -1; always " + hand + " 0 0 0 = -1;"
                    + "race " + hand + " 0 = -1; race 0 " + hand + " = -1; keep 0 4 " + hand + " 0 = -1;"
                    + "keep 0 1 " + hand + " 0 = -1; code " + hand + " 3 0 1 = -1; uncode " + hand + " = -1");
                for (int what = 0; what <= 4; what++) {
                    x.due("see " + what + " " + hand + " = -1");
                }
            }
        }
    }

    // Promise 3, and "a row of STATEMENTS (8 at most)"

    private static void eightStatementsAtMost() {
        Script x = script("3: 8 at most");
        for (int i = 0; i < 8; i++) {
            x.due("code 0 3 0 " + i + " = " + i);
        }
        x.due("code 0 3 0 8 = -2; code 0 12 0 0 = -2; told 0 7 2 = 7; told 0 8 0 = -1");
        x.due("uncode 0 = 7; code 0 3 0 9 = 7; told 0 7 2 = 9; told 0 6 2 = 6; code 0 3 0 0 = -2; puzzle 1 = 8");
    }

    private static void eachHandHasItsOwnEight() {
        String eight = Script.times(8, "ADD 1");
        script("3: 8 of each hand", eight, "", eight)
            .due("code 0 3 0 1 = -2; code 2 3 0 1 = -2; code 1 3 0 5 = 0; told 1 0 2 = 5; code 0 3 0 1 = -2;"
                + "code 2 3 0 1 = -2; told 0 7 2 = 1; told 2 0 2 = 1; uncode 1 = 0; puzzle 3 = 16");
        script("3: all hands full", eight, eight, eight)
            .due("code 0 3 0 1 = -2; code 1 3 0 1 = -2; code 2 3 0 1 = -2; told 1 7 0 = 3; told 2 7 0 = 3");
    }

    private static void kindsZeroToTwelve() {
        script("3: no such kind").due(
            "code 0 -1 0 0 = -1; code 0 13 0 0 = -1; code 0 MIN 0 0 = -1; code 0 MAX 0 0 = -1; told 0 0 0 = -1");
        Script x = script("3: kinds 0 to 12");
        for (int kind = 0; kind <= 12; kind++) {
            x.due("code 0 " + kind + " 0 0 = 0; told 0 0 0 = " + kind + "; uncode 0 = 0");
        }
    }

    private static void operandsWithinTheirBounds() {
        for (int kind = 0; kind < KINDS.length; kind++) {
            int bound = OPERANDS[kind];
            if (bound == 0) {
                continue;
            }
            Script x = script("3: p 0 .. 3, l 0 .. 2 of " + KINDS[kind]);
            String head = "code 0 " + kind + " ";
            x.due(head + "-1 0 = -1;" + head + bound + " 0 = -1;" + head + "MIN 0 = -1;" + head + "MAX 0 = -1");
            x.due("told 0 0 0 = -1");
            for (int a = 0; a < bound; a++) {
                x.due(head + a + " 0 = " + a + "; told 0 " + a + " 1 = " + a);
            }
        }
    }

    private static void numbersWithinTheirBounds() {
        for (int kind = 0; kind < KINDS.length; kind++) {
            int bound = NUMBERS[kind];
            if (bound == 0) {
                continue;
            }
            Script x = script("3: n from 0 of " + KINDS[kind]);
            String head = "code 0 " + kind + " 0 ";
            x.due(head + "-1 = -1;" + head + bound + " = -1;" + head + "MIN = -1;" + head + "MAX = -1");
            x.due("told 0 0 0 = -1");
            for (int n = 0; n < bound; n++) {
                x.due(head + n + " = 0; told 0 0 2 = " + n + "; uncode 0 = 0");
            }
        }
    }

    private static void jumpTakesEightAndOthersNine() {
        script("3: n 0 .. 9, of 4 0 .. 8").due(
            "code 0 4 0 8 = 0; code 0 4 0 9 = -1; code 0 0 0 9 = 1; code 0 0 0 10 = -1; code 0 3 0 9 = 2;"
            + "code 0 3 0 10 = -1; code 0 5 0 9 = 3; code 0 5 0 10 = -1; code 0 6 0 9 = 4; code 0 6 0 10 = -1");
    }

    private static void whatAKindHasNotIsAny() {
        String[] far = {"MIN", "-1", "3", "4", "9", "10", "MAX"};
        for (int kind = 0; kind < KINDS.length; kind++) {
            Script x = script("3: else any, of " + KINDS[kind]);
            for (String any : far) {
                if (OPERANDS[kind] == 0) {
                    x.due("code 0 " + kind + " " + any + " 0 = 0; told 0 0 1 = -2; uncode 0 = 0");
                }
                if (NUMBERS[kind] == 0) {
                    x.due("code 0 " + kind + " 0 " + any + " = 0; told 0 0 2 = -2; uncode 0 = 0");
                }
            }
        }
        script("3: else any, both").due("code 0 12 MIN MAX = 0; go 0 = 1; see 0 0 = 10");
    }

    private static void wrongStandsAheadOfFull() {
        String eight = Script.times(8, "ADD 1");
        script("3: -1 ahead of -2", eight, eight).due(
            "code 0 3 0 1 = -2; code 2 3 0 1 = -1; code -1 3 0 1 = -1; code 0 13 0 1 = -1; code 0 -1 0 1 = -1;"
            + "code 0 3 0 10 = -1; code 0 4 0 9 = -1; code 1 0 4 0 = -1; code 1 0 0 -1 = -1; code 1 8 3 0 = -1;"
            + "code 1 9 -1 0 = -1; code 1 12 99 99 = -2");
    }

    private static void refusedCodeTakesNoPlace() {
        script("3: a refused code takes no place", "ADD 1").due(
            "code 0 13 0 0 = -1; code 0 3 0 10 = -1; code 0 0 4 0 = -1; code 0 10 3 0 = -1; told 0 1 0 = -1;"
            + "code 0 3 0 2 = 1; puzzle 1 = 2");
    }

    // Promise 4

    private static void uncodeFromEightToNone() {
        Script x = script("4: how many it has", Script.times(8, "ADD 1"));
        for (int left = 7; left >= 0; left--) {
            x.due("uncode 0 = " + left + "; told 0 " + left + " 0 = -1");
        }
        x.due("uncode 0 = -3; uncode 0 = -3; see 0 0 = 10; code 0 3 0 1 = 0; uncode 0 = 0; uncode 0 = -3");
    }

    private static void uncodeTakesTheLastOfItsHand() {
        script("4: the last statement of a hand goes", "SET 0 1, SET 0 2", "SET 0 3, SET 0 4", "SET 0 5, SET 0 6").due(
            "uncode 1 = 1; told 0 1 2 = 2; told 1 0 2 = 3; told 1 1 0 = -1; told 2 1 2 = 6;"
            + "uncode 2 = 1; told 2 0 2 = 5; uncode 0 = 1; told 0 0 2 = 1; puzzle 1 = 3");
    }

    private static void uncodeOfNoHand() {
        script("4: -1", "ADD 1", "").due(
            "uncode -1 = -1; uncode 2 = -1; uncode 3 = -1; uncode MIN = -1; uncode MAX = -1; uncode 1 = -3; uncode 0 = 0");
    }

    // Promise 5

    private static void valueOfPlacesAndNumbers() {
        script("5: places 0 .. 3").due(
            "value -1 0 = -1; value 4 0 = -1; value MIN 0 = -1; value MAX 0 = -1; value 0 1 = 0; value 3 1 = 0;"
            + "see 5 0 = 1; see 5 1 = 0; see 5 2 = 0; see 5 3 = 1");
        script("5: numbers 0 .. 9").due(
            "value 1 -1 = -1; value 1 10 = -1; value 1 MIN = -1; value 1 MAX = -1; see 5 1 = 0;"
            + "value 1 9 = 0; value 1 10 = -1; see 5 1 = 9; value 1 0 = 9; see 5 1 = 0");
    }

    private static void valueTellsTheOneBefore() {
        Script x = script("5: the one before");
        int[] numbers = {0, 9, 9, 4, 0, 5};
        int before = 0;
        for (int number : numbers) {
            x.due("value 2 " + number + " = " + before);
            before = number;
        }
        script("5: the number at first, not the run's", "SET 2 8").due(
            "go 0 = 1; see 5 2 = 8; value 2 0 = 0; see 5 2 = 8; value 2 3 = 0; see 5 2 = 3");
    }

    // Promise 6

    private static void toldOfEachKind() {
        for (int kind = 0; kind < KINDS.length; kind++) {
            int a = OPERANDS[kind] - 1;
            int n = NUMBERS[kind] - 1;
            script("6: told of " + KINDS[kind]).due(
                "code 0 " + kind + " " + a + " " + n + " = 0; told 0 0 0 = " + kind
                + "; told 0 0 1 = " + (a < 0 ? -2 : a) + "; told 0 0 2 = " + (n < 0 ? -2 : n));
            script("6: told of " + KINDS[kind] + " with 0").due(
                "code 0 " + kind + " 0 0 = 0; told 0 0 0 = " + kind
                + "; told 0 0 1 = " + (a < 0 ? -2 : 0) + "; told 0 0 2 = " + (n < 0 ? -2 : 0));
        }
    }

    private static void toldOutOfRange() {
        script("6: -1", "SET 3 9, MEET", "ADD 2").due(
            "told 0 0 -1 = -1; told 0 0 3 = -1; told 0 0 MIN = -1; told 0 0 MAX = -1;"
            + "told 0 -1 0 = -1; told 0 2 0 = -1; told 1 1 0 = -1; told 0 MIN 0 = -1; told 0 MAX 0 = -1;"
            + "told -1 0 0 = -1; told 2 0 0 = -1; told 0 1 0 = 12; told 0 1 1 = -2; told 0 1 2 = -2; told 0 1 3 = -1;"
            + "told 1 0 1 = -2; told 1 0 2 = 2");
    }

    private static void toldForgetsWhatAKindHasNot() {
        script("6: none, though one was given").due(
            "code 0 3 3 9 = 0; told 0 0 1 = -2; code 0 1 2 7 = 1; told 0 1 2 = -2; code 0 12 1 1 = 2;"
            + "told 0 2 1 = -2; told 0 2 2 = -2; code 0 4 2 1 = 3; told 0 3 1 = -2; told 0 3 2 = 1");
    }
}
