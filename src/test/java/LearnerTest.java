/** Promises 21 to 24: answer, cost, explain, next. */
public final class LearnerTest {
    private static final Check CHECK = new Check();

    public static void main(String[] args) {
        answers();
        costs();
        questions();
        allAnswered();
        spent();
        CHECK.end();
    }

    private static TurnSchool counters() {
        return Puzzles.of(new int[] {6, 0, 1}, new int[] {6, 0, 1});
    }

    private static void answers() {
        TurnSchool x = counters();
        CHECK.due("21: answer(0, 0, true)", x.answer(0, 0, true), 1);
        CHECK.due("21: answer(3, 9, true)", x.answer(3, 9, true), 2);
        CHECK.due("21: answer(0, 0, false)", x.answer(0, 0, false), 2);
        CHECK.due("21: answer(-1, 0, true)", x.answer(-1, 0, true), -1);
        CHECK.due("21: answer(4, 0, true)", x.answer(4, 0, true), -1);
        CHECK.due("21: answer(0, -1, true)", x.answer(0, -1, true), -1);
        CHECK.due("21: answer(0, 10, true)", x.answer(0, 10, true), -1);
        CHECK.due("21: answer(1, 0, true)", x.answer(1, 0, true), 3);
        CHECK.due("22: cost(0)", x.cost(0), 1);
        CHECK.due("21: the latest counts", x.answer(3, 9, false), 3);
        CHECK.due("22: cost(0)", x.cost(0), 0);
    }

    private static void costs() {
        // TRUE and OPEN: 1 or 2; WHOLE and SHORT: 2; TURNS: 1.
        TurnSchool x = counters();
        CHECK.due("23: explain()", x.explain(), 31);
        CHECK.due("22: cost(-1)", x.cost(-1), -1);
        CHECK.due("22: cost(5)", x.cost(5), -1);
        x.answer(0, 1, true);
        x.answer(0, 2, false);
        int[] costs = {1, 2, 0, 2, 1};
        for (int picture = 0; picture < 5; picture++) {
            CHECK.due("22: cost(" + picture + ")", x.cost(picture), costs[picture]);
        }
        CHECK.due("23: explain()", x.explain(), 4);
        x.answer(0, 2, true);
        CHECK.due("23: explain()", x.explain(), 17);
        x.answer(0, 1, false);
        CHECK.due("23: explain()", x.explain(), 10);
        x.answer(0, 2, false);
        CHECK.due("22: cost(0)", x.cost(0), 2);
        CHECK.due("22: cost(2)", x.cost(2), 1);
        CHECK.due("23: explain() of several", x.explain(), 14);
    }

    private static void questions() {
        // Of five: 0 1 divides 3 to 2, 0 2 divides 4 to 1, the rest not at all.
        TurnSchool x = counters();
        CHECK.due("24: next()", x.next(), 1);
        x.answer(0, 1, true);
        // Of TRUE, TURNS, OPEN: 0 2 divides 2 to 1.
        CHECK.due("24: next()", x.next(), 2);
        x.answer(0, 2, true);
        // TRUE and OPEN are alike: the least that is left.
        CHECK.due("24: next()", x.next(), 0);
        x.answer(0, 0, true);
        CHECK.due("24: next()", x.next(), 3);
        TurnSchool y = new TurnSchool();
        CHECK.due("24: next()", y.next(), 0);
        for (int n = 0; n < 10; n++) {
            y.answer(0, n, n == 0);
        }
        CHECK.due("24: next() of place 1", y.next(), 10);
    }

    private static void allAnswered() {
        TurnSchool x = counters();
        answerAll(x);
        CHECK.due("24: next()", x.next(), -2);
        CHECK.due("23: explain()", x.explain(), 14);
    }

    private static void answerAll(TurnSchool x) {
        for (int p = 0; p < 4; p++) {
            for (int n = 0; n < 10; n++) {
                CHECK.due("21: answer()", x.answer(p, n, false), 10 * p + n + 1);
            }
        }
    }

    private static void spent() {
        TurnSchool x = Puzzles.spent();
        CHECK.due("21: answer(0, 0, true)", x.answer(0, 0, true), 1);
        CHECK.due("22: cost(2), which is not spent itself", x.cost(2), -5);
        CHECK.due("22: cost(5)", x.cost(5), -1);
        CHECK.due("23: explain()", x.explain(), -5);
        CHECK.due("24: next()", x.next(), -5);
        x.uncode(2);
        answerAll(x);
        CHECK.due("24: next()", x.next(), -2);
        x.code(2, 3, 0, 0);
        answerAll(x);
        // Of several refusals the first one of the document's row: -2 ahead of -5.
        CHECK.due("24: next() of all answered, and spent", x.next(), -2);
    }
}
