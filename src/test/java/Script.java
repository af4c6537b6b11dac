import java.util.Arrays;
import java.util.List;

/**
 * Calls of one object written as text, each with the answer that is due:
 * "go 0 = 1; see 0 0 = 10". A puzzle is written by its hands' rows, such as
 * "SET 0 5, TAKE 0", and the sentence of the document that it shows stands
 * ahead of every answer that is not as due.
 */
final class Script {
    private static final int MOST_CALLS = 512;
    private static final List<String> KINDS = List.of("SET", "TAKE", "GIVE", "ADD", "JUMP", "UNTIL", "LONG",
        "TEST", "ENTER", "LEAVE", "WAIT", "CALL", "MEET");
    /** Kinds whose one number is n, not a. */
    private static final List<String> OF_NUMBER = List.of("ADD", "JUMP");

    private final Check check;
    private final String sentence;
    private final TurnSchool school = new TurnSchool();
    private int calls = 0;

    /** Without hands it is a new object; else a puzzle of these hands. */
    Script(Check check, String sentence, String... hands) {
        this.check = check;
        this.sentence = sentence;
        if (hands.length > 0) {
            ask("puzzle " + hands.length);
        }
        for (int hand = 0; hand < hands.length; hand++) {
            code(hand, hands[hand]);
        }
    }

    /** A row written several times over. */
    static String times(int n, String row) {
        return String.join(", ", java.util.Collections.nCopies(n, row));
    }

    private void code(int hand, String row) {
        if (row.isEmpty()) {
            return;
        }
        for (String statement : row.split(", *")) {
            String answer = ask("code " + hand + " " + numbersOf(statement));
            if (answer.startsWith("-")) {
                throw new IllegalStateException("a test's statement was refused: " + statement);
            }
        }
    }

    /** A statement's kind, a and n. */
    static String numbersOf(String statement) {
        String[] words = statement.trim().split(" +");
        int kind = KINDS.indexOf(words[0]);
        if (kind < 0) {
            throw new IllegalStateException("no such kind: " + statement);
        }
        String first = words.length > 1 ? words[1] : "0";
        String second = words.length > 2 ? words[2] : "0";
        return OF_NUMBER.contains(words[0]) ? kind + " 0 " + first : kind + " " + first + " " + second;
    }

    /** Calls and the answers that are due, divided by semicolons. */
    Script due(String text) {
        for (String one : text.split(";")) {
            String[] sides = one.split("=");
            if (sides.length != 2) {
                throw new IllegalStateException("no call with an answer: " + one);
            }
            String call = sides[0].trim();
            check.same(sentence + ": " + call, ask(call), sides[1].trim());
        }
        return this;
    }

    /** Calls whose answers don't matter here. */
    Script after(String text) {
        for (String one : text.split(";")) {
            ask(one.trim());
        }
        return this;
    }

    /** One call's answer, or the name of what it throws. */
    String ask(String call) {
        calls++;
        if (calls > MOST_CALLS) {
            throw new IllegalStateException("a test asks too much of one object: " + sentence);
        }
        String[] words = call.split(" +");
        int[] numbers = new int[5];
        for (int k = 1; k < words.length; k++) {
            numbers[k - 1] = numberOf(words[k]);
        }
        return answerTo(words[0], numbers, words.length - 1);
    }

    private static int numberOf(String word) {
        return switch (word) {
            case "MIN" -> Integer.MIN_VALUE;
            case "MAX" -> Integer.MAX_VALUE;
            case "yes" -> 1;
            case "no" -> 0;
            default -> Integer.parseInt(word);
        };
    }

    private static void counted(String name, int given, int wanted) {
        if (given != wanted) {
            throw new IllegalStateException(name + " takes " + wanted + " numbers");
        }
    }

    private String answerTo(String name, int[] x, int given) {
        counted(name, given, numbersFor(name));
        return switch (name) {
            case "puzzle" -> text(school.puzzle(x[0]));
            case "code" -> text(school.code(x[0], x[1], x[2], x[3]));
            case "uncode" -> text(school.uncode(x[0]));
            case "value" -> text(school.value(x[0], x[1]));
            case "told" -> text(school.told(x[0], x[1], x[2]));
            case "start" -> text(school.start());
            case "go" -> text(school.go(x[0]));
            case "see" -> text(school.see(x[0], x[1]));
            case "states" -> text(school.states(x[0]));
            case "count" -> text(school.count(x[0]));
            case "nth" -> text(school.nth(x[0], x[1]));
            case "way" -> text(school.way(x[0]));
            case "step" -> text(school.step(x[0], x[1]));
            case "lead" -> text(school.lead(x[0]));
            case "race" -> text(school.race(x[0], x[1]));
            case "always" -> text(school.always(x[0], x[1], x[2], x[3]));
            case "can" -> text(school.can(x[0], x[1], x[2]));
            case "fix" -> text(school.fix(x[0], x[1], x[2]));
            case "fixed" -> text(school.fixed(x[0], x[1]));
            case "answer" -> text(school.answer(x[0], x[1], x[2] == 1));
            case "cost" -> text(school.cost(x[0]));
            case "explain" -> text(school.explain());
            case "next" -> text(school.next());
            case "keep" -> text(school.keep(x[0], x[1], x[2], x[3]));
            case "make" -> text(school.make(x[0], x[1], x[2]));
            case "element" -> Check.element(school, x[0], x[1]);
            case "copy" -> text(school.copy(x[0], x[1], x[2], x[3], x[4]));
            case "weight" -> text(school.weight(x[0]));
            case "toss" -> text(school.toss(x[0]));
            default -> throw new IllegalStateException("no such call: " + name);
        };
    }

    private static int numbersFor(String name) {
        if (Arrays.asList("start", "explain", "next").contains(name)) {
            return 0;
        }
        if (Arrays.asList("value", "see", "nth", "step", "race", "fixed", "element").contains(name)) {
            return 2;
        }
        if (Arrays.asList("told", "can", "fix", "answer", "make").contains(name)) {
            return 3;
        }
        if (Arrays.asList("code", "always", "keep").contains(name)) {
            return 4;
        }
        return name.equals("copy") ? 5 : 1;
    }

    private static String text(int answer) {
        return Integer.toString(answer);
    }
}
