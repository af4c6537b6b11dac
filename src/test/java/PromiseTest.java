/**
 * The document from its first promise to its last, a method each: what a
 * promise says, the least and the greatest it takes, and each of its refusals.
 * Written apart from the other tests, so that each promise has its own.
 */
public final class PromiseTest {
    private static final Check CHECK = new Check();
    private static final String LONG_ROW = Script.times(8, "LONG 0 0");

    public static void main(String[] args) {
        promise1();
        promise2();
        promise3();
        promise4();
        promise5();
        promise6();
        promise7();
        promise8();
        promise9();
        promise10();
        promise11();
        promise12();
        promise13();
        promise14();
        promise15();
        promise16();
        promise17();
        promise18();
        promise19();
        promise20();
        promise21();
        promise22();
        promise23();
        promise24();
        promise25();
        promise26();
        promise27();
        promise28();
        promise29();
        promise30();
        CHECK.end();
    }

    private static Script script(String sentence, String... hands) {
        return new Script(CHECK, sentence, hands);
    }

    /** Two hands that each make place 0 one more, and get into each other's way. */
    private static Script twoLong(String sentence) {
        return script(sentence, "LONG 0 1", "LONG 0 1");
    }

    /** Two hands that take two locks in different orders. */
    private static Script twoLocks(String sentence) {
        return script(sentence, "ENTER 0, ENTER 1, LEAVE 1, LEAVE 0", "ENTER 1, ENTER 0, LEAVE 0, LEAVE 1");
    }

    /** 25 x 25 x 25 states by TRUE, and so spent. */
    private static Script spent(String sentence) {
        return script(sentence, LONG_ROW, LONG_ROW, LONG_ROW);
    }

    private static void promise1() {
        script("1: one hand without statements").due("uncode 0 = -3; uncode 1 = -1; puzzle 1 = 0");
        script("1: the run is at the first state").due(
            "start = 0; see 0 0 = 10; see 1 0 = 0; see 3 0 = 0; see 5 0 = 0; see 5 3 = 0; see 6 0 = -2;"
            + "see 6 2 = -2; states 0 = 1; count 0 = 1");
        script("1: shelves hold nothing, no fix, no answers").due(
            "weight 0 = -11; weight 7 = -11; fixed 0 0 = -3; answer 0 0 yes = 1");
    }

    private static void promise2() {
        script("2: how many statements there were", "ADD 1, ADD 2", "ADD 3", "").due(
            "puzzle 2 = 3; puzzle 1 = 0; uncode 0 = -3; uncode 1 = -1; puzzle 3 = 0; uncode 2 = -3;"
            + "uncode 3 = -1");
        script("2: all places 0, the run first, answers gone", "SET 1 4")
            .after("value 0 7; go 0; answer 0 0 yes").due(
                "puzzle 1 = 1; see 5 0 = 0; see 5 1 = 0; value 0 0 = 0; answer 1 1 no = 1");
        script("2: refused, it changes nothing", "ADD 1").after("go 0").due(
            "puzzle 0 = -1; puzzle 4 = -1; puzzle MIN = -1; puzzle MAX = -1; see 1 0 = 1; uncode 0 = 0");
    }

    private static void promise3() {
        script("3: its place, a and n that it has none of are any").due(
            "code 0 0 3 9 = 0; code 0 3 MAX 0 = 1; code 0 4 -1 8 = 2; code 0 8 2 MIN = 3;"
            + "code 0 12 MIN MAX = 4; code 0 1 0 10 = 5; code 0 7 3 -1 = 6; code 0 6 0 0 = 7;"
            + "code 0 6 0 0 = -2; code 0 13 0 0 = -1");
        script("3: p 0 .. 3, l 0 .. 2, n 0 .. 9, of JUMP 0 .. 8").due(
            "code 0 0 4 0 = -1; code 0 1 -1 0 = -1; code 0 8 3 0 = -1; code 0 11 -1 0 = -1;"
            + "code 0 0 0 10 = -1; code 0 3 0 -1 = -1; code 0 4 0 9 = -1; code 0 5 0 10 = -1;"
            + "code 0 6 0 10 = -1; uncode 0 = -3");
        script("3: no such hand or kind").due(
            "code 1 3 0 0 = -1; code -1 3 0 0 = -1; code 0 -1 0 0 = -1; code 0 13 0 0 = -1;"
            + "code 0 12 0 0 = 0");
        script("3: the run is first, answers are gone", "ADD 1").after("go 0; answer 0 0 yes").due(
            "code 0 3 0 1 = 1; start = 0; see 0 0 = 0; answer 0 1 yes = 1");
    }

    private static void promise4() {
        script("4: how many it has", "ADD 1, ADD 2, ADD 3").due(
            "uncode 0 = 2; told 0 2 0 = -1; told 0 1 2 = 2; uncode 0 = 1; uncode 0 = 0; uncode 0 = -3;"
            + "uncode 1 = -1; uncode -1 = -1");
        script("4: the run is first, answers are gone", "ADD 1, ADD 2").after("go 0; answer 0 0 yes").due(
            "uncode 0 = 1; start = 0; see 0 0 = 0; answer 0 1 yes = 1");
    }

    private static void promise5() {
        script("5: the one before").due(
            "value 0 7 = 0; value 0 3 = 7; value 0 3 = 3; value 3 9 = 0; value 3 0 = 9; see 5 0 = 3;"
            + "see 5 3 = 0");
        script("5: out of range").due(
            "value 4 0 = -1; value -1 0 = -1; value 0 10 = -1; value 0 -1 = -1; value 0 0 = 0");
        script("5: another number takes the run back, the same one doesn't", "SET 1 5")
            .after("go 0; answer 0 0 yes").due(
                "value 0 0 = 0; see 5 1 = 5; answer 0 1 yes = 2; value 0 1 = 0; see 5 1 = 0;"
                + "answer 0 1 yes = 1");
    }

    private static void promise6() {
        script("6: kind, p or l, n", "SET 3 9, TAKE 2, GIVE 1, ADD 8, JUMP 7, UNTIL 0 6, LONG 3 5, TEST 2").due(
            "told 0 0 0 = 0; told 0 0 1 = 3; told 0 0 2 = 9; told 0 1 0 = 1; told 0 1 1 = 2;"
            + "told 0 1 2 = -2; told 0 2 0 = 2; told 0 2 1 = 1; told 0 2 2 = -2; told 0 3 0 = 3;"
            + "told 0 3 1 = -2; told 0 3 2 = 8; told 0 4 0 = 4; told 0 4 1 = -2; told 0 4 2 = 7;"
            + "told 0 5 0 = 5; told 0 5 1 = 0; told 0 5 2 = 6; told 0 6 0 = 6; told 0 6 1 = 3;"
            + "told 0 6 2 = 5; told 0 7 0 = 7; told 0 7 1 = 2; told 0 7 2 = -2");
        script("6: kinds with a lock, and MEET", "", "ENTER 2, LEAVE 1, WAIT 0, CALL 2, MEET").due(
            "told 1 0 0 = 8; told 1 0 1 = 2; told 1 0 2 = -2; told 1 1 0 = 9; told 1 1 1 = 1;"
            + "told 1 2 0 = 10; told 1 2 1 = 0; told 1 3 0 = 11; told 1 3 1 = 2; told 1 3 2 = -2;"
            + "told 1 4 0 = 12; told 1 4 1 = -2; told 1 4 2 = -2");
        script("6: no such thing", "ADD 1").due(
            "told 0 1 0 = -1; told 0 -1 0 = -1; told 1 0 0 = -1; told -1 0 0 = -1; told 0 0 3 = -1;"
            + "told 0 0 -1 = -1");
    }

    private static void promise7() {
        script("7: 1, or 0 if it was", "SET 0 4, LONG 1 1").due(
            "start = 0; go 0 = 1; start = 1; see 0 0 = 0; see 5 0 = 0; start = 0");
        script("7: a step back to the first state", "JUMP 0").due("go 0 = 1; start = 0");
    }

    private static void promise8() {
        script("8: SET, TAKE, ADD, GIVE", "SET 0 7, TAKE 0, ADD 5, GIVE 1").due(
            "go 0 = 1; see 5 0 = 7; go 0 = 1; see 1 0 = 7; go 0 = 1; see 1 0 = 2; go 0 = 1; see 5 1 = 2;"
            + "go 0 = 0");
        script("8: JUMP where the register is 0", "JUMP 2, SET 0 1, ADD 1, JUMP 0, JUMP 8").due(
            "go 0 = 1; see 0 0 = 2; go 0 = 1; go 0 = 1; see 0 0 = 4; go 0 = 1; see 0 0 = 10");
        script("8: a JUMP beyond the last one ends", "JUMP 8, ADD 1").due(
            "go 0 = 1; see 0 0 = 10; see 1 0 = 0; go 0 = 0");
        script("8: UNTIL", "UNTIL 0 1", "SET 0 1").due("go 0 = 0; go 1 = 1; go 0 = 1; see 0 0 = 10");
        script("8: LONG is three steps", "LONG 0 3").after("value 0 9").due(
            "go 0 = 1; see 1 0 = 9; go 0 = 1; see 1 0 = 2; see 5 0 = 9; go 0 = 1; see 5 0 = 2;"
            + "see 0 0 = 10");
        script("8: TEST", "TEST 2, TEST 2").after("value 2 6").due(
            "go 0 = 1; see 1 0 = 6; see 5 2 = 1; go 0 = 1; see 1 0 = 1; see 5 2 = 1");
        script("8: ENTER and LEAVE", "ENTER 1, LEAVE 1", "ENTER 1").due(
            "go 0 = 1; see 6 1 = 0; go 1 = 0; go 0 = 1; see 6 1 = -2; go 1 = 1; see 6 1 = 1");
        script("8: LEAVE of another's lock fails", "ENTER 1", "LEAVE 1, SET 0 1").after("go 0").due(
            "go 1 = 1; see 0 1 = 11; see 6 1 = 0; go 1 = 0; see 5 0 = 0");
        script("8: WAIT and CALL", "ENTER 0, WAIT 0", "ENTER 0, CALL 0, LEAVE 0").after("go 0").due(
            "go 1 = 0; go 0 = 1; see 6 0 = -2; go 0 = 0; go 1 = 1; go 1 = 1; see 4 0 = 2; go 0 = 0;"
            + "go 1 = 1; go 0 = 1; see 6 0 = 0; see 0 0 = 10");
        script("8: WAIT at a lock that isn't the hand's fails", "WAIT 0").due(
            "go 0 = 1; see 0 0 = 11; see 4 0 = 0");
        script("8: CALL wakes one that sleeps at its lock", "ENTER 1, WAIT 1", "ENTER 0, WAIT 0", "CALL 0, CALL 2")
            .after("go 0; go 0; go 1; go 1").due(
                "go 2 = 1; see 4 0 = 1; see 4 1 = 2; go 2 = 1; see 4 0 = 1; see 0 2 = 10");
        script("8: MEET", "MEET, ADD 1", "ADD 1, MEET", "").due(
            "go 0 = 0; go 1 = 1; go 0 = 1; see 0 0 = 1; see 0 1 = 10");
        script("8: no such hand", "ADD 1", "ADD 1").due("go 2 = -1; go -1 = -1; go MAX = -1; see 0 0 = 0");
    }

    private static void promise9() {
        script("9: a hand's statement, register, steps made", "ADD 4, LONG 0 1, LEAVE 0", "").due(
            "see 0 0 = 0; see 0 1 = 10; go 0 = 1; see 0 0 = 1; see 1 0 = 4; see 2 0 = 0; go 0 = 1;"
            + "see 2 0 = 1; go 0 = 1; see 2 0 = 2; go 0 = 1; see 2 0 = 0; see 3 0 = 1; go 0 = 1;"
            + "see 0 0 = 11; see 3 0 = 0; see 1 1 = 0; see 3 1 = 0");
        script("9: whether it sleeps", "ENTER 2, WAIT 2", "CALL 2").due(
            "see 4 0 = 0; go 0 = 1; go 0 = 1; see 4 0 = 1; see 2 0 = 1; see 3 0 = 0; go 1 = 1;"
            + "see 4 0 = 2; see 3 0 = 1; go 0 = 1; see 4 0 = 0");
        script("9: places and locks", "SET 3 8, ENTER 2").after("value 0 1; go 0; go 0").due(
            "see 5 0 = 1; see 5 3 = 8; see 6 2 = 0; see 6 0 = -2; see 6 1 = -2");
        script("9: no such thing").due(
            "see 0 1 = -1; see 1 -1 = -1; see 2 1 = -1; see 3 1 = -1; see 4 1 = -1; see 5 4 = -1;"
            + "see 5 -1 = -1; see 6 3 = -1; see 6 -1 = -1; see 7 0 = -1; see -1 0 = -1");
    }

    private static void promise10() {
        twoLong("10: as told, whole, in turns, short, open").due(
            "states 0 = 22; states 1 = 13; states 2 = 7; states 3 = 5; states 4 = 22");
        twoLocks("10: where each may enter").due("states 4 = 58");
        spent("10: spent, and not by other pictures").due(
            "states 0 = -5; states 1 = 289; states 2 = 73; states 3 = 729; states 4 = -5");
        spent("10: no such picture").due("states 5 = -1; states -1 = -1");
    }

    private static void promise11() {
        twoLong("11: ends").due("count 0 = 3; count 1 = 0; count 2 = 0");
        twoLocks("11: stuck ones").due("count 0 = 1; count 1 = 1; count 2 = 0");
        script("11: those that come back", "JUMP 1, JUMP 0", "SET 0 1").due(
            "count 0 = 0; count 1 = 0; count 2 = 4");
        script("11: a hand that failed is an end, too", "LEAVE 0", "").due("count 0 = 1; count 1 = 0");
        spent("11: spent").due("count 0 = -5; count 1 = -5; count 2 = -5; count 3 = -1; count -1 = -1");
    }

    private static void promise12() {
        twoLong("12: ends by numbers").due(
            "nth 0 0 = 19; nth 0 1 = 20; nth 0 2 = 21; nth 0 3 = -3; nth 0 -1 = -1; nth 1 0 = -3");
        twoLocks("12: stuck ones").due("nth 1 0 = 4; nth 1 1 = -3; nth 2 0 = -3");
        script("12: those that come back", "SET 0 1, JUMP 1").due(
            "nth 2 0 = 1; nth 2 1 = -3; nth 0 0 = -3; nth 3 0 = -1; nth -1 0 = -1; nth 2 MAX = -3");
        spent("12: spent").due("nth 0 0 = -5; nth 3 0 = -1; nth 0 -1 = -1");
    }

    private static void promise13() {
        script("13: how many steps", "ADD 1, ADD 1", "ADD 2").due(
            "way 0 = 0; way 1 = 1; way 2 = 1; way 3 = 2; way 4 = 2; way 5 = 3; way 6 = -1; way -1 = -1;"
            + "way MAX = -1; way MIN = -1");
        script("13: the fewest steps", "JUMP 2, ADD 1, SET 0 1").due("states 0 = 3; way 2 = 2");
        spent("13: spent ahead of above all states").due(
            "way 0 = -5; way 2000 = -5; way MAX = -5; way -1 = -1");
    }

    private static void promise14() {
        script("14: the hand of step k, the least hands first", "ADD 1, ADD 1", "ADD 2").due(
            "step 4 0 = 0; step 4 1 = 1; step 4 2 = -3; step 5 0 = 0; step 5 1 = 0; step 5 2 = 1;"
            + "step 2 0 = 1; step 0 0 = -3; step 6 0 = -1; step -1 0 = -1; step 4 -1 = -1; step 4 MAX = -3");
        spent("14: spent").due("step 0 0 = -5; step MAX 0 = -5; step -1 0 = -1; step 0 -1 = -1");
    }

    private static void promise15() {
        script("15: 1, or 0 if it was", "SET 0 1, SET 0 2", "SET 1 3").due(
            "lead 0 = 0; lead 4 = 1; see 0 0 = 1; see 0 1 = 10; see 5 0 = 1; see 5 1 = 3; lead 4 = 0;"
            + "go 0 = 1; lead 5 = 0; start = 1; lead 0 = 0; lead 6 = -1; lead -1 = -1; start = 0");
        spent("15: spent").after("go 0").due("lead 0 = -5; lead MAX = -5; lead -1 = -1; see 2 0 = 1");
    }

    private static void promise16() {
        twoLong("16: the first one").due("race 0 1 = 3; race 1 0 = 3");
        script("16: writers, and a reader and a writer", "SET 0 1", "GIVE 0", "TAKE 0").due(
            "race 0 1 = 0; race 0 2 = 0; race 2 1 = 0");
        script("16: TEST does both", "TEST 1", "TEST 1", "TAKE 1").due("race 0 1 = 0; race 0 2 = 0");
        script("16: none of two readers, or of two places", "TAKE 0", "UNTIL 0 0", "SET 1 1").due(
            "race 0 1 = -2; race 0 2 = -2; race 1 2 = -2");
        script("16: both can step", "UNTIL 0 1", "SET 0 1, SET 0 2").due("race 0 1 = 1");
        script("16: no such hands", "ADD 1", "ADD 1").due(
            "race 0 0 = -1; race 0 2 = -1; race -1 0 = -1; race 2 2 = -1");
        spent("16: spent").due("race 0 1 = -5; race 0 0 = -1");
    }

    private static void promise17() {
        script("17: the first one", "SET 0 1, SET 0 2", "SET 0 3").due(
            "always 0 1 0 1 = 4; always 0 0 0 0 = 2; always 1 0 0 0 = 1; always 1 0 0 1 = 0;"
            + "always 0 1 1 0 = -2");
        script("17: none of its steps made", "LONG 0 1", "UNTIL 1 1").due(
            "always 0 0 0 0 = -2; always 1 0 0 0 = 3");
        script("17: no such thing", "ADD 1").due(
            "always 0 1 0 0 = -1; always 1 0 0 0 = -1; always 0 -1 0 0 = -1; always 0 0 4 0 = -1;"
            + "always 0 0 -1 0 = -1; always 0 0 0 10 = -1; always 0 0 0 -1 = -1");
        spent("17: spent").due("always 0 0 0 0 = -5; always 0 8 0 0 = -1");
    }

    private static void promise18() {
        twoLong("18: by a picture").due(
            "can 0 0 1 = 1; can 0 0 2 = 1; can 0 0 0 = 0; can 1 0 1 = 0; can 1 0 2 = 1; can 2 0 1 = 1;"
            + "can 2 0 2 = 0; can 3 0 1 = 0; can 3 0 2 = 1; can 4 0 1 = 1; can 0 3 0 = 1");
        twoLocks("18: ends alone").due("can 0 0 0 = 1; can 2 0 0 = 0; can 4 0 0 = 1");
        twoLong("18: out of range").due(
            "can 5 0 0 = -1; can -1 0 0 = -1; can 0 4 0 = -1; can 0 -1 0 = -1; can 0 0 10 = -1;"
            + "can 0 0 -1 = -1");
        spent("18: spent").due("can 0 0 0 = -5; can 1 0 0 = 1; can 3 0 1 = 0; can 4 0 0 = -5; can 5 0 0 = -1");
    }

    private static void promise19() {
        twoLong("19: statements within").due("fix 0 0 2 = 2; fix 2 0 2 = 2; fix 0 0 1 = -2; fix 0 1 0 = 0");
        script("19: all three of each", "TAKE 0, ADD 1, GIVE 0", "TAKE 0, ADD 1, GIVE 0").due(
            "fix 1 0 2 = 6; fix 1 0 1 = -2");
        script("19: not where it is stuck", "ENTER 0", "ENTER 0").due("fix 0 0 0 = -2; fix 1 0 0 = -2");
        script("19: not where a hand fails", "LEAVE 0", "").due("fix 1 0 0 = -2; fix 0 0 0 = -2");
        script("19: no lock makes one end of two", "SET 0 1", "SET 0 2").due("fix 0 0 1 = -2; fix 0 0 2 = -2");
        twoLong("19: out of range").due(
            "fix 3 0 0 = -1; fix -1 0 0 = -1; fix 0 4 0 = -1; fix 0 -1 0 = -1; fix 0 0 10 = -1;"
            + "fix 0 0 -1 = -1");
        script("19: not of two hands", "ADD 1").due("fix 0 0 0 = -3; fix 3 0 0 = -1");
        script("19: not of three", "", "", "").due("fix 0 0 0 = -3");
        script("19: four statements at most", "", Script.times(5, "ADD 1")).due(
            "fix 0 0 0 = -3; uncode 1 = 4; fix 0 0 0 = 0");
    }

    private static void promise20() {
        twoLong("20: i and j").due(
            "fixed 0 0 = -3; fix 0 0 1 = -2; fixed 0 0 = -3; fix 0 0 2 = 2; fixed 0 0 = 0; fixed 0 1 = 0;"
            + "fixed 1 0 = 0; fixed 1 1 = 0; fixed 2 0 = -1; fixed -1 0 = -1; fixed 0 2 = -1;"
            + "fixed 0 -1 = -1");
        script("20: a statement stays without", "SET 1 1, TAKE 0, ADD 1, GIVE 0", "LONG 0 1, SET 2 2").due(
            "fix 0 0 2 = 4; fixed 0 0 = 1; fixed 0 1 = 3; fixed 1 0 = 0; fixed 1 1 = 0");
        twoLong("20: none, by the latest that told one").due(
            "fix 0 0 2 = 2; fix 0 1 0 = 0; fixed 0 0 = -2; fixed 1 1 = -2; fix 0 0 1 = -2;"
            + "fixed 0 1 = -2; fix 0 0 2 = 2; fixed 0 1 = 0");
    }

    private static void promise21() {
        script("21: how many there are, the latest counts").due(
            "answer 0 0 yes = 1; answer 0 0 no = 1; answer 3 9 no = 2; cost 0 = 1; answer 0 0 yes = 2;"
            + "cost 0 = 0");
        script("21: out of range").due(
            "answer 4 0 yes = -1; answer -1 0 yes = -1; answer 0 10 no = -1; answer 0 -1 no = -1;"
            + "answer 0 0 yes = 1");
    }

    private static void promise22() {
        twoLong("22: answers that are otherwise").due(
            "cost 0 = 0; answer 0 1 no = 1; answer 0 2 yes = 2; cost 0 = 1; cost 1 = 0; cost 2 = 2;"
            + "cost 3 = 0; cost 4 = 1; cost 5 = -1; cost -1 = -1");
        spent("22: some picture is spent").due("cost 1 = -5; cost 5 = -1");
    }

    private static void promise23() {
        twoLong("23: as bits").due(
            "explain = 31; answer 0 1 no = 1; explain = 10; answer 0 2 no = 2; explain = 14;"
            + "answer 0 1 yes = 2; explain = 4; answer 0 2 yes = 2; explain = 17");
        spent("23: some picture is spent").due("explain = -5");
    }

    private static void promise24() {
        twoLong("24: where the greater part is least").due(
            "next = 1; answer 0 1 yes = 1; next = 2; answer 0 2 yes = 2; next = 0");
        twoLong("24: of like ones the least").due("answer 0 1 no = 1; next = 0; answer 0 0 no = 2; next = 2");
        Script all = script("24: all have answers");
        for (int question = 0; question < 39; question++) {
            String right = question % 10 == 0 ? " yes" : " no";
            all.due("next = " + question).after("answer " + question / 10 + " " + question % 10 + right);
        }
        all.due("next = 39; answer 3 9 no = 40; next = -2; explain = 31");
        spent("24: some picture is spent").due("next = -5");
    }

    private static void promise25() {
        script("25: nothing, a statement", "ADD 1, WAIT 2").due(
            "keep 0 1 0 1 = 0; toss 0 = 2; keep 0 0 MIN MAX = 0; toss 0 = -11; keep 7 1 0 0 = 0;"
            + "weight 7 = 4");
        script("25: the run's places and registers", "ADD 6, SET 3 8", "ADD 5")
            .after("value 0 2; go 0; go 0; go 1").due(
            "keep 3 3 MIN MAX = 0; element 3 0 = 2; element 3 1 = 0; element 3 2 = 0; element 3 3 = 8;"
            + "element 3 4 = 6; element 3 5 = 5; element 3 6 = IllegalStateException; start = 1;"
            + "element 3 3 = 8");
        script("25: kinds", "", "MEET, SET 0 0, CALL 1").due(
            "keep 1 4 1 MAX = 0; element 1 0 = 12; element 1 1 = 0; element 1 2 = 11;"
            + "element 1 3 = IllegalStateException; keep 2 4 0 0 = 0; element 2 0 = IllegalStateException;"
            + "copy 2 0 1 0 0 = 0");
        script("25: no such thing", "ADD 1").due(
            "keep 8 0 0 0 = -1; keep -1 0 0 0 = -1; keep 0 2 0 0 = -1; keep 0 5 0 0 = -1;"
            + "keep 0 -1 0 0 = -1; keep 0 1 1 0 = -1; keep 0 1 0 1 = -1; keep 0 1 0 -1 = -1;"
            + "keep 0 1 -1 0 = -1; keep 0 4 1 0 = -1; keep 0 4 -1 0 = -1; weight 0 = -11");
    }

    private static void promise26() {
        script("26: n longs or shorts, 0").due(
            "make 0 3 60 = 0; element 0 0 = 0; element 0 59 = 0; element 0 60 = IllegalStateException;"
            + "make 0 4 0 = 0; element 0 0 = IllegalStateException; weight 0 = -12; make 1 3 2 = 0;"
            + "copy 0 0 1 0 0 = -12; make 1 4 2 = 0; copy 0 0 1 0 0 = 0");
        script("26: refused, it changes nothing").after("make 0 3 1").due(
            "make 8 3 1 = -1; make -1 3 1 = -1; make 0 2 1 = -1; make 0 5 1 = -1; make 0 3 61 = -1;"
            + "make 0 4 MAX = -1; make 0 3 -1 = -14; make 0 4 MIN = -14; make 8 3 -1 = -1;"
            + "make 0 1 -1 = -1; element 0 0 = 0");
    }

    private static void promise27() {
        script("27: element i", "MEET, ENTER 0").due(
            "keep 0 4 0 0 = 0; element 0 0 = 12; element 0 1 = 8; element 0 2 = IllegalStateException;"
            + "element 0 -1 = IllegalStateException; element 0 MIN = IllegalStateException;"
            + "element 0 MAX = IllegalStateException");
        script("27: no such shelf, nothing held, no row", "ADD 1").after("keep 0 1 0 0").due(
            "element 8 0 = IllegalArgumentException; element -1 0 = IllegalArgumentException;"
            + "element 1 0 = IllegalStateException; element 0 0 = IllegalStateException");
    }

    private static void promise28() {
        script("28: as they all were before", "SET 0 0, TAKE 0, GIVE 0, ADD 0, JUMP 0")
            .after("keep 0 4 0 0").due(
            "copy 0 0 0 1 4 = 4; element 0 0 = 0; element 0 1 = 0; element 0 2 = 1; element 0 4 = 3;"
            + "copy 0 2 0 0 3 = 3; element 0 0 = 1; element 0 2 = 3; element 0 3 = 2");
        script("28: from one to another", "ADD 7").after("go 0; keep 0 3 0 0; make 1 3 2").due(
            "copy 0 4 1 1 1 = 1; element 1 0 = 0; element 1 1 = 7; element 0 4 = 7; copy 0 5 1 2 0 = 0");
        script("28: beyond either's end").after("make 0 3 4; make 1 3 2").due(
            "copy 0 0 1 0 3 = -13; copy 0 3 1 0 2 = -13; copy 1 0 0 3 2 = -13; copy 0 -1 1 0 1 = -13;"
            + "copy 0 0 1 -1 1 = -13; copy 0 0 1 0 -1 = -13; copy 0 5 1 0 0 = -13; copy 0 0 1 3 0 = -13;"
            + "copy 0 MAX 1 0 1 = -13; copy 0 0 1 MAX 1 = -13; copy 0 1 1 1 MAX = -13");
        script("28: refusals in their order", "ADD 1").after("make 0 3 1; make 1 4 1; keep 2 1 0 0").due(
            "copy 8 0 0 0 0 = -1; copy 0 0 -1 0 0 = -1; copy 0 0 3 0 0 = -11; copy 3 0 0 0 0 = -11;"
            + "copy 2 0 3 0 0 = -11; copy 0 0 1 0 0 = -12; copy 1 0 0 -1 0 = -12; copy 2 0 0 0 0 = -12;"
            + "copy 0 0 2 0 0 = -12; copy 2 0 2 0 0 = -12");
    }

    private static void promise29() {
        String[] kinds = {"SET 0 0", "TAKE 0", "GIVE 0", "ADD 0", "JUMP 0", "UNTIL 0 0",
            "LONG 0 0", "TEST 0", "ENTER 0", "LEAVE 0", "WAIT 0", "CALL 0", "MEET"};
        int[] weights = {11, 12, 13, 4, 5, 16, 117, 236, 1009, 1010, 2022, 1012, 13};
        for (int kind = 0; kind < kinds.length; kind++) {
            script("29: " + kinds[kind], kinds[kind]).due("keep 0 1 0 0 = 0; weight 0 = " + weights[kind]);
        }
        script("29: refusals").after("make 0 3 1; make 1 4 1").due(
            "weight 8 = -1; weight -1 = -1; weight 2 = -11; weight 0 = -12; weight 1 = -12");
    }

    private static void promise30() {
        script("30: its lock", "ENTER 2, LEAVE 1, WAIT 0, CALL 2")
            .after("keep 0 1 0 0; keep 1 1 0 1; keep 2 1 0 2; keep 3 1 0 3").due(
            "toss 0 = 2; toss 1 = 1; toss 2 = 0; toss 3 = 2");
        script("30: those without a lock have none", "SET 2 0, ADD 1, MEET, JUMP 0")
            .after("keep 0 1 0 0; keep 1 1 0 1; keep 2 1 0 2; keep 3 1 0 3").due(
            "toss 0 = -15; toss 1 = -15; toss 2 = -15; toss 3 = -15");
        script("30: refusals").after("make 0 3 1; make 1 4 1").due(
            "toss 8 = -1; toss -1 = -1; toss 2 = -11; toss 0 = -12; toss 1 = -12");
    }
}
