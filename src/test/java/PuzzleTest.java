/** Promises 1 to 6: a new object, puzzle, code, uncode, value, told. */
public final class PuzzleTest {
    private static final Check CHECK = new Check();

    public static void main(String[] args) {
        newObject();
        puzzle();
        code();
        codeEdges();
        uncode();
        value();
        told();
        whatSetsTheRunBack();
        CHECK.end();
    }

    private static void newObject() {
        TurnSchool x = new TurnSchool();
        CHECK.due("1: start()", x.start(), 0);
        CHECK.due("1: see(0, 0)", x.see(0, 0), 10);
        CHECK.due("1: see(0, 1)", x.see(0, 1), -1);
        CHECK.due("1: see(1, 0)", x.see(1, 0), 0);
        CHECK.due("1: see(2, 0)", x.see(2, 0), 0);
        CHECK.due("1: see(3, 0)", x.see(3, 0), 0);
        CHECK.due("1: see(4, 0)", x.see(4, 0), 0);
        for (int p = 0; p < 4; p++) {
            CHECK.due("1: see(5, p)", x.see(5, p), 0);
        }
        for (int l = 0; l < 3; l++) {
            CHECK.due("1: see(6, l)", x.see(6, l), -2);
        }
        CHECK.due("1: states(0)", x.states(0), 1);
        CHECK.due("1: count(0)", x.count(0), 1);
        CHECK.due("1: told(0, 0, 0)", x.told(0, 0, 0), -1);
        CHECK.due("1: uncode(0)", x.uncode(0), -3);
        CHECK.due("1: fixed(0, 0)", x.fixed(0, 0), -3);
        CHECK.due("1: weight(7)", x.weight(7), -11);
        CHECK.due("1: puzzle(1)", x.puzzle(1), 0);
    }

    private static void puzzle() {
        TurnSchool x = new TurnSchool();
        CHECK.due("2: puzzle(0)", x.puzzle(0), -1);
        CHECK.due("2: puzzle(4)", x.puzzle(4), -1);
        CHECK.due("2: puzzle(-1)", x.puzzle(-1), -1);
        CHECK.due("2: see(0, 1)", x.see(0, 1), -1);
        CHECK.due("2: puzzle(3)", x.puzzle(3), 0);
        x.code(0, 3, 0, 1);
        x.code(0, 3, 0, 1);
        x.code(2, 3, 0, 1);
        x.value(3, 7);
        CHECK.due("2: puzzle(4)", x.puzzle(4), -1);
        CHECK.due("2: told(2, 0, 0)", x.told(2, 0, 0), 3);
        CHECK.due("2: puzzle(2)", x.puzzle(2), 3);
        CHECK.due("2: see(5, 3)", x.see(5, 3), 0);
        CHECK.due("2: value(3, 0)", x.value(3, 0), 0);
        CHECK.due("2: told(0, 0, 0)", x.told(0, 0, 0), -1);
        CHECK.due("2: told(2, 0, 0)", x.told(2, 0, 0), -1);
        CHECK.due("2: code(2, 3, 0, 1)", x.code(2, 3, 0, 1), -1);
        CHECK.due("2: puzzle(3)", x.puzzle(3), 0);
        CHECK.due("2: uncode(0)", x.uncode(0), -3);
    }

    private static void code() {
        TurnSchool x = new TurnSchool();
        x.puzzle(2);
        for (int i = 0; i < 8; i++) {
            CHECK.due("3: code(1, 12, -5, 77)", x.code(1, 12, -5, 77), i);
        }
        CHECK.due("3: code() of a ninth", x.code(1, 12, 0, 0), -2);
        CHECK.due("3: code() of a wrong ninth", x.code(1, 13, 0, 0), -1);
        CHECK.due("3: told(1, 8, 0)", x.told(1, 8, 0), -1);
        CHECK.due("3: code(0, 3, 0, 1)", x.code(0, 3, 0, 1), 0);
        CHECK.due("3: code(-1, 3, 0, 1)", x.code(-1, 3, 0, 1), -1);
        CHECK.due("3: code(2, 3, 0, 1)", x.code(2, 3, 0, 1), -1);
        CHECK.due("3: code(0, -1, 0, 1)", x.code(0, -1, 0, 1), -1);
        CHECK.due("3: code(0, 13, 0, 1)", x.code(0, 13, 0, 1), -1);
        CHECK.due("3: uncode(0)", x.uncode(0), 0);
    }

    private static void codeEdges() {
        int[] tops = {9, -1, -1, 9, 8, 9, 9, -1, -1, -1, -1, -1, -1};
        int[] bounds = {4, 4, 4, -1, -1, 4, 4, 4, 3, 3, 3, 3, -1};
        TurnSchool x = new TurnSchool();
        for (int kind = 0; kind <= 12; kind++) {
            int bound = bounds[kind];
            int top = tops[kind];
            int most = bound < 0 ? Integer.MAX_VALUE : bound - 1;
            int greatest = top < 0 ? Integer.MAX_VALUE : top;
            String name = "3: code() of kind " + kind;
            CHECK.due(name, x.code(0, kind, most, greatest), 0);
            CHECK.due(name, x.uncode(0), 0);
            CHECK.due(name + " with a below 0", x.code(0, kind, -1, 0), bound < 0 ? 0 : -1);
            x.uncode(0);
            CHECK.due(name + " with a too great", x.code(0, kind, bound < 0 ? 4 : bound, 0), bound < 0 ? 0 : -1);
            x.uncode(0);
            CHECK.due(name + " with n below 0", x.code(0, kind, 0, -1), top < 0 ? 0 : -1);
            x.uncode(0);
            CHECK.due(name + " with n too great", x.code(0, kind, 0, top < 0 ? 10 : top + 1), top < 0 ? 0 : -1);
            x.uncode(0);
        }
    }

    private static void uncode() {
        TurnSchool x = Puzzles.of(new int[] {0, 1, 2, 3, 0, 4}, new int[] {});
        CHECK.due("4: uncode(-1)", x.uncode(-1), -1);
        CHECK.due("4: uncode(2)", x.uncode(2), -1);
        CHECK.due("4: uncode(1)", x.uncode(1), -3);
        CHECK.due("4: uncode(0)", x.uncode(0), 1);
        CHECK.due("4: told(0, 0, 0)", x.told(0, 0, 0), 0);
        CHECK.due("4: told(0, 1, 0)", x.told(0, 1, 0), -1);
        CHECK.due("4: uncode(0)", x.uncode(0), 0);
        CHECK.due("4: uncode(0)", x.uncode(0), -3);
        CHECK.due("4: see(0, 0)", x.see(0, 0), 10);
    }

    private static void value() {
        TurnSchool x = new TurnSchool();
        CHECK.due("5: value(0, 9)", x.value(0, 9), 0);
        CHECK.due("5: value(3, 4)", x.value(3, 4), 0);
        CHECK.due("5: value(0, 0)", x.value(0, 0), 9);
        CHECK.due("5: value(0, 0)", x.value(0, 0), 0);
        CHECK.due("5: value(-1, 0)", x.value(-1, 0), -1);
        CHECK.due("5: value(4, 0)", x.value(4, 0), -1);
        CHECK.due("5: value(0, -1)", x.value(0, -1), -1);
        CHECK.due("5: value(0, 10)", x.value(0, 10), -1);
        CHECK.due("5: see(5, 3)", x.see(5, 3), 4);
        CHECK.due("5: see(5, 0)", x.see(5, 0), 0);
        CHECK.due("5: can(0, 3, 4)", x.can(0, 3, 4), 1);
    }

    private static void told() {
        int[] places = {3, 3, 3, -2, -2, 3, 3, 3, 2, 2, 2, 2, -2};
        int[] numbers = {8, -2, -2, 8, 8, 8, 8, -2, -2, -2, -2, -2, -2};
        TurnSchool x = new TurnSchool();
        for (int kind = 0; kind <= 12; kind++) {
            x.code(0, kind, kind >= 8 && kind <= 11 ? 2 : 3, 8);
            CHECK.due("6: told(0, 0, 0) of " + kind, x.told(0, 0, 0), kind);
            CHECK.due("6: told(0, 0, 1) of " + kind, x.told(0, 0, 1), places[kind]);
            CHECK.due("6: told(0, 0, 2) of " + kind, x.told(0, 0, 2), numbers[kind]);
            x.uncode(0);
        }
        x.code(0, 0, 1, 2);
        CHECK.due("6: told(0, 0, 3)", x.told(0, 0, 3), -1);
        CHECK.due("6: told(0, 0, -1)", x.told(0, 0, -1), -1);
        CHECK.due("6: told(0, 1, 0)", x.told(0, 1, 0), -1);
        CHECK.due("6: told(0, -1, 0)", x.told(0, -1, 0), -1);
        CHECK.due("6: told(1, 0, 0)", x.told(1, 0, 0), -1);
        CHECK.due("6: told(-1, 0, 0)", x.told(-1, 0, 0), -1);
    }

    /** Which calls set the run to the first state and take answers away. */
    private static void whatSetsTheRunBack() {
        TurnSchool x = Puzzles.of(new int[] {3, 0, 1, 3, 0, 1});
        x.go(0);
        x.answer(0, 0, true);
        CHECK.due("value() of the same number", x.value(2, 0), 0);
        CHECK.due("refused value()", x.value(2, 10), -1);
        CHECK.due("refused code()", x.code(0, 3, 0, 10), -1);
        CHECK.due("refused uncode()", x.uncode(1), -1);
        CHECK.due("refused puzzle()", x.puzzle(0), -1);
        CHECK.due("the run stays", x.see(0, 0), 1);
        CHECK.due("answers stay", x.answer(0, 1, true), 2);
        x.value(2, 5);
        CHECK.due("value() sets the run", x.see(0, 0), 0);
        CHECK.due("value() shows in the run", x.see(5, 2), 5);
        CHECK.due("value() takes answers", x.answer(0, 0, true), 1);
        x.go(0);
        x.code(0, 3, 0, 1);
        CHECK.due("code() sets the run", x.start(), 0);
        CHECK.due("code() takes answers", x.answer(1, 0, true), 1);
        x.go(0);
        x.uncode(0);
        CHECK.due("uncode() sets the run", x.start(), 0);
        CHECK.due("uncode() takes answers", x.answer(2, 0, true), 1);
        x.go(0);
        x.puzzle(1);
        CHECK.due("puzzle() sets the run", x.start(), 0);
        CHECK.due("puzzle() takes answers", x.answer(3, 0, true), 1);
    }
}
