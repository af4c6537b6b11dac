import java.util.ArrayList;
import java.util.List;

/**
 * "A refused call changes nothing", and which calls set the run to the first
 * state and take answers away. An object to which a call was made is compared,
 * by all that can be asked of it, with a twin to which it wasn't.
 */
public final class EdgeRefusalTest {
    private static final Check CHECK = new Check();
    private static final int SHELVES = 8;

    /** Every refusal of every call, and every call that only asks, of the rich object. */
    private static final String[] OF_RICH = {
        "puzzle 0 = -1", "puzzle 4 = -1", "puzzle -1 = -1", "puzzle MIN = -1", "puzzle MAX = -1",
        "code -1 3 0 1 = -1", "code 2 3 0 1 = -1", "code 0 -1 0 1 = -1", "code 0 13 0 1 = -1", "code 0 0 4 1 = -1", "code 0 0 -1 1 = -1",
        "code 0 0 0 10 = -1", "code 0 0 0 -1 = -1", "code 0 8 3 0 = -1", "code 1 11 -1 0 = -1", "code 1 4 0 9 = -1", "code 1 3 0 10 = -1",
        "uncode -1 = -1", "uncode 2 = -1", "value -1 0 = -1", "value 4 0 = -1", "value 0 -1 = -1", "value 0 10 = -1", "value 1 4 = 4",
        "value 0 0 = 0", "told 0 4 0 = -1", "told 0 0 3 = -1", "told 0 0 0 = 6", "told 1 1 2 = 2",
        "go -1 = -1", "go 2 = -1", "go 0 = 0", "see 7 0 = -1", "see 0 2 = -1", "see 5 4 = -1", "see 6 3 = -1", "see 3 0 = 0",
        "states 5 = -1", "states -1 = -1", "states 1 = 17", "count 3 = -1", "count -1 = -1", "nth 3 0 = -1", "nth 0 -1 = -1", "nth 0 999 = -3",
        "way -1 = -1", "way 2000 = -1", "step -1 0 = -1", "step 0 -1 = -1", "step 0 0 = -3", "step 2000 0 = -1", "lead -1 = -1", "lead 2000 = -1",
        "race 0 0 = -1", "race 0 2 = -1", "race 0 1 = 3", "always 0 4 0 0 = -1", "always 0 0 4 0 = -1", "always 0 0 0 10 = -1",
        "can 5 0 0 = -1", "can 0 4 0 = -1", "can 0 0 10 = -1", "fix 3 0 0 = -1", "fix 0 4 0 = -1", "fix 0 0 10 = -1", "fix 0 0 9 = -2",
        "fixed 2 0 = -1", "fixed 0 2 = -1", "answer 4 0 yes = -1", "answer 0 10 yes = -1", "answer -1 0 no = -1", "answer 0 -1 no = -1",
        "cost 5 = -1", "cost -1 = -1", "keep 8 0 0 0 = -1", "keep -1 3 0 0 = -1", "keep 0 2 0 0 = -1", "keep 0 5 0 0 = -1",
        "keep 0 1 0 4 = -1", "keep 0 1 2 0 = -1", "keep 1 4 2 0 = -1", "keep 2 1 0 -1 = -1", "make 8 3 1 = -1", "make 0 2 1 = -1",
        "make 1 3 61 = -1", "make 2 4 61 = -1", "make 1 3 -1 = -14", "make 2 4 -1 = -14", "element 8 0 = IllegalArgumentException",
        "element 3 0 = IllegalStateException", "element 0 0 = IllegalStateException", "element 1 6 = IllegalStateException",
        "copy 8 0 1 0 1 = -1", "copy 1 0 -1 0 1 = -1", "copy 3 0 1 0 1 = -11", "copy 1 0 3 0 1 = -11", "copy 0 0 1 0 1 = -12",
        "copy 1 0 2 0 1 = -12", "copy 2 0 1 0 1 = -12", "copy 1 0 1 1 6 = -13", "copy 2 0 4 0 3 = -13", "copy 4 -1 2 0 1 = -13",
        "copy 2 0 4 1 -1 = -13", "weight 8 = -1", "weight 3 = -11", "weight 1 = -12", "weight 0 = 117", "toss -1 = -1", "toss 3 = -11",
        "toss 2 = -12", "toss 0 = -15", "toss 5 = 2", "next = 0", "explain = 4"};

    /** Refusals that need a hand without room, a hand without statements, three hands, or too many states. */
    private static final String[] OF_FULL = {
        "code 0 3 0 1 = -2", "code 0 12 0 0 = -2", "uncode 1 = -3", "fix 0 0 0 = -3", "fixed 0 0 = -3", "fixed 1 1 = -3", "states 0 = -5",
        "states 4 = -5", "count 0 = -5", "nth 0 0 = -5", "way 0 = -5", "way 9999 = -5", "step 0 0 = -5", "lead 0 = -5", "lead 3 = -5",
        "race 0 2 = -5", "always 0 0 0 0 = -5", "can 0 0 0 = -5", "cost 0 = -5", "explain = -5", "next = -5", "puzzle 4 = -1", "go 1 = 0",
        "value 3 0 = 0", "answer 4 0 yes = -1"};

    public static void main(String[] args) {
        for (String call : OF_RICH) {
            changesNothing(call, rich(call), rich("no call"));
        }
        for (String call : OF_FULL) {
            changesNothing(call, full(call), full("no call"));
        }
        whatSetsTheRunToTheFirstState();
        whatTakesAnswersAway();
        whatLeavesRunAndAnswers();
        CHECK.end();
    }

    /** A puzzle under way, with answers, a fix that was told, and shelves of all kinds. */
    private static Script rich(String name) {
        return new Script(CHECK, "a refused call changes nothing: " + name, "LONG 0 1", "LONG 0 1, SET 1 2")
            .due("value 1 4 = 0; fix 1 0 2 = 2; code 0 10 2 0 = 1; keep 5 1 0 1 = 0; uncode 0 = 1; code 0 5 1 2 = 1")
            .due("keep 0 1 0 0 = 0; keep 2 4 0 0 = 0; make 4 4 2 = 0; make 6 3 60 = 0; go 0 = 1; go 0 = 1; go 0 = 1; go 1 = 1; go 0 = 0")
            .due("keep 1 3 0 0 = 0; answer 0 1 yes = 1; answer 0 2 no = 2; answer 3 9 yes = 3; answer 1 4 no = 4");
    }

    /** Three hands, one full, one empty, with more states than there may be. */
    private static Script full(String name) {
        return new Script(CHECK, "a refused call changes nothing: " + name, Script.times(8, "LONG 0 0"), "",
            "LONG 1 1, LONG 2 3, ADD 0, TAKE 3, JUMP 0")
            .due("go 0 = 1; go 0 = 1; go 2 = 1; answer 3 9 yes = 1; answer 0 0 no = 2; states 0 = -5; keep 7 1 0 7 = 0; keep 0 4 2 0 = 0");
    }

    private static void changesNothing(String call, Script changed, Script twin) {
        changed.due(call);
        List<String> got = new ArrayList<>();
        List<String> want = new ArrayList<>();
        for (String question : questions()) {
            got.add(question + " = " + changed.ask(question));
            want.add(question + " = " + twin.ask(question));
        }
        for (int k = 0; k < got.size(); k++) {
            CHECK.same("behind " + call, got.get(k), want.get(k));
        }
    }

    /** All that can be asked of an object; what changes it stands last. */
    private static List<String> questions() {
        List<String> all = new ArrayList<>();
        for (int hand = 0; hand < 3; hand++) {
            for (int what = 0; what <= 4; what++) {
                all.add("see " + what + " " + hand);
            }
            for (int i = 0; i < 9; i++) {
                for (int what = 0; what < 3; what++) {
                    all.add("told " + hand + " " + i + " " + what);
                }
            }
        }
        for (int i = 0; i < 4; i++) {
            all.add("see 5 " + i);
            all.add("see 6 " + i);
            all.add("fixed " + i / 2 + " " + i % 2);
        }
        for (int picture = 0; picture < 5; picture++) {
            all.add("states " + picture);
            all.add("cost " + picture);
        }
        for (int d = 0; d < SHELVES; d++) {
            all.add("weight " + d);
            all.add("toss " + d);
            for (int i = 0; i < 6; i++) {
                all.add("element " + d + " " + i);
            }
        }
        all.addAll(List.of("element 6 59", "count 0", "count 1", "explain", "next", "answer 0 1 yes", "answer 0 2 no", "answer 3 9 yes",
            "answer 1 4 no", "cost 0", "cost 2", "value 0 0", "value 1 4", "start", "go 0", "go 1", "see 0 0", "see 2 0", "uncode 0", "uncode 1", "puzzle 2"));
        return all;
    }

    // "puzzle(), code(), uncode(), and value() that tells another number, set THE RUN to the first STATE, and take ANSWERS away."

    private static Script underWay(String sentence) {
        return new Script(CHECK, sentence, "SET 0 1, ADD 2, ENTER 0, LONG 1 1", "ADD 1")
            .due("go 0 = 1; go 0 = 1; go 0 = 1; go 0 = 1; go 1 = 1; answer 0 0 yes = 1; answer 0 1 no = 2");
    }

    private static void whatSetsTheRunToTheFirstState() {
        for (String call : List.of("code 1 3 0 1 = 1", "uncode 0 = 3", "uncode 1 = 0", "value 3 1 = 0", "puzzle 2 = 5")) {
            underWay("sets the run to the first state: " + call).due(call).due(
                "see 5 0 = 0; see 1 0 = 0; see 2 0 = 0; see 1 1 = 0; see 6 0 = -2; start = 0");
        }
        underWay("the first state has the new number").due("value 0 9 = 0; see 5 0 = 9; see 0 0 = 0; go 0 = 1; see 5 0 = 1");
        underWay("the first state has the new statement").due("puzzle 2 = 5; see 0 0 = 10; code 0 3 0 1 = 0; see 0 0 = 0; see 3 0 = 1");
    }

    private static void whatTakesAnswersAway() {
        for (String call : List.of("code 1 3 0 1 = 1", "uncode 0 = 3", "uncode 1 = 0", "value 3 1 = 0", "value 0 9 = 0", "puzzle 2 = 5", "puzzle 1 = 5")) {
            underWay("takes answers away: " + call).due(call).due("cost 0 = 0; answer 0 0 yes = 1; answer 0 0 no = 1; answer 3 9 yes = 2");
        }
    }

    private static void whatLeavesRunAndAnswers() {
        for (String call : List.of("value 0 0 = 0", "value 3 0 = 0", "states 1 = 15", "count 0 = 1", "fix 0 0 0 = -2", "fix 1 0 1 = 0", "explain = 31", "next = 2",
            "cost 0 = 2", "keep 0 3 0 0 = 0", "make 0 3 4 = 0", "race 0 1 = -2", "can 0 0 1 = 1", "lead 99 = -1", "value 0 10 = -1", "puzzle 4 = -1")) {
            underWay("leaves run and answers: " + call).due(call).due("see 0 0 = 3; see 2 0 = 1; see 0 1 = 10; see 6 0 = 0; answer 1 1 yes = 3; start = 1");
        }
        underWay("start leaves answers").due("start = 1; answer 1 1 yes = 3; go 0 = 1; answer 1 2 yes = 4; lead 5 = 1; answer 1 3 yes = 5");
    }
}
