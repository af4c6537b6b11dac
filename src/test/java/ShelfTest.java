/** Promises 25 to 30: keep, make, element, copy, weight, toss. */
public final class ShelfTest {
    private static final String ARGUMENT = "IllegalArgumentException";
    private static final String STATE = "IllegalStateException";
    private static final Check CHECK = new Check();

    public static void main(String[] args) {
        keep();
        keepRows();
        make();
        elements();
        copy();
        copyRefusals();
        weight();
        toss();
        CHECK.end();
    }

    private static void row(String name, TurnSchool x, int d, String... want) {
        for (int i = 0; i < want.length; i++) {
            CHECK.same(name + " element " + i, Check.element(x, d, i), want[i]);
        }
        CHECK.same(name + " behind its end", Check.element(x, d, want.length), STATE);
    }

    private static void keep() {
        TurnSchool x = Puzzles.of(new int[] {0, 1, 2, 8, 2, 0}, new int[] {});
        CHECK.due("25: keep(-1, 0, 0, 0)", x.keep(-1, 0, 0, 0), -1);
        CHECK.due("25: keep(8, 0, 0, 0)", x.keep(8, 0, 0, 0), -1);
        CHECK.due("25: keep(0, 2, 0, 0)", x.keep(0, 2, 0, 0), -1);
        CHECK.due("25: keep(0, 5, 0, 0)", x.keep(0, 5, 0, 0), -1);
        CHECK.due("25: keep(0, -1, 0, 0)", x.keep(0, -1, 0, 0), -1);
        CHECK.due("25: keep(0, 1, 0, 2)", x.keep(0, 1, 0, 2), -1);
        CHECK.due("25: keep(0, 1, 0, -1)", x.keep(0, 1, 0, -1), -1);
        CHECK.due("25: keep(0, 1, 1, 0)", x.keep(0, 1, 1, 0), -1);
        CHECK.due("25: keep(0, 1, 2, 0)", x.keep(0, 1, 2, 0), -1);
        CHECK.due("25: keep(0, 4, 2, 0)", x.keep(0, 4, 2, 0), -1);
        CHECK.due("25: keep(0, 4, -1, 0)", x.keep(0, 4, -1, 0), -1);
        CHECK.due("29: weight(0)", x.weight(0), -11);
        CHECK.due("25: keep(7, 1, 0, 1)", x.keep(7, 1, 0, 1), 0);
        CHECK.due("30: toss(7)", x.toss(7), 2);
        CHECK.due("25: refused keep", x.keep(7, 1, 0, 9), -1);
        x.puzzle(1);
        CHECK.due("30: toss(7) of a statement that went", x.toss(7), 2);
        CHECK.due("25: keep(7, 0, 99, -99)", x.keep(7, 0, 99, -99), 0);
        CHECK.due("30: toss(7)", x.toss(7), -11);
    }

    private static void keepRows() {
        TurnSchool x = Puzzles.of(new int[] {0, 1, 2, 3, 0, 7, 12, 0, 0}, new int[] {3, 0, 4}, new int[] {});
        x.value(3, 9);
        x.go(0);
        x.go(0);
        x.go(1);
        CHECK.due("25: keep(2, 3, -7, 99)", x.keep(2, 3, -7, 99), 0);
        CHECK.due("25: keep(3, 4, 0, -1)", x.keep(3, 4, 0, -1), 0);
        CHECK.due("25: keep(4, 4, 2, 0)", x.keep(4, 4, 2, 0), 0);
        x.start();
        row("25: the run", x, 2, "0", "2", "0", "9", "7", "4", "0");
        row("25: kinds", x, 3, "0", "3", "12");
        row("25: no kinds", x, 4);
        x.uncode(0);
        row("25: kinds as they were", x, 3, "0", "3", "12");
        TurnSchool y = new TurnSchool();
        y.keep(0, 3, 0, 0);
        row("25: one hand", y, 0, "0", "0", "0", "0", "0");
    }

    private static void make() {
        TurnSchool x = new TurnSchool();
        CHECK.due("26: make(0, 3, 60)", x.make(0, 3, 60), 0);
        CHECK.same("26: element(0, 59)", Check.element(x, 0, 59), "0");
        CHECK.same("26: element(0, 60)", Check.element(x, 0, 60), STATE);
        CHECK.due("26: make(0, 3, 61)", x.make(0, 3, 61), -1);
        CHECK.due("26: make(0, 4, -1)", x.make(0, 4, -1), -14);
        CHECK.due("26: make(0, 4, MIN)", x.make(0, 4, Integer.MIN_VALUE), -14);
        CHECK.due("26: make(8, 4, -1)", x.make(8, 4, -1), -1);
        CHECK.due("26: make(-1, 4, 1)", x.make(-1, 4, 1), -1);
        CHECK.due("26: make(0, 2, -1)", x.make(0, 2, -1), -1);
        CHECK.due("26: make(0, 5, 1)", x.make(0, 5, 1), -1);
        CHECK.due("26: make(0, 0, 1)", x.make(0, 0, 1), -1);
        CHECK.due("26: make(0, 1, 1)", x.make(0, 1, 1), -1);
        CHECK.same("26: a refused make changes nothing", Check.element(x, 0, 59), "0");
        CHECK.due("26: make(7, 4, 0)", x.make(7, 4, 0), 0);
        row("26: of none", x, 7);
        CHECK.due("29: weight(7)", x.weight(7), -12);
    }

    private static void elements() {
        TurnSchool x = Puzzles.of(new int[] {3, 0, 1});
        CHECK.same("27: element(-1, 0)", Check.element(x, -1, 0), ARGUMENT);
        CHECK.same("27: element(8, 0)", Check.element(x, 8, 0), ARGUMENT);
        CHECK.same("27: element(8, -1)", Check.element(x, 8, -1), ARGUMENT);
        CHECK.same("27: element(0, 0) of nothing", Check.element(x, 0, 0), STATE);
        x.keep(0, 1, 0, 0);
        CHECK.same("27: element(0, 0) of a statement", Check.element(x, 0, 0), STATE);
        x.make(0, 4, 2);
        CHECK.same("27: element(0, 1)", Check.element(x, 0, 1), "0");
        CHECK.same("27: element(0, -1)", Check.element(x, 0, -1), STATE);
        CHECK.same("27: element(0, 2)", Check.element(x, 0, 2), STATE);
        CHECK.same("27: element(0, MAX)", Check.element(x, 0, Integer.MAX_VALUE), STATE);
        x.keep(0, 0, 0, 0);
        CHECK.same("27: element(0, 0) of nothing again", Check.element(x, 0, 0), STATE);
    }

    private static void copy() {
        TurnSchool x = Puzzles.of(new int[] {1, 0, 0, 2, 0, 0, 3, 0, 0, 4, 0, 0});
        x.keep(0, 4, 0, 0);
        CHECK.due("28: copy(0, 0, 0, 1, 3)", x.copy(0, 0, 0, 1, 3), 3);
        row("28: to the right", x, 0, "1", "1", "2", "3");
        x.keep(0, 4, 0, 0);
        CHECK.due("28: copy(0, 1, 0, 0, 3)", x.copy(0, 1, 0, 0, 3), 3);
        row("28: to the left", x, 0, "2", "3", "4", "4");
        x.make(1, 4, 3);
        CHECK.due("28: copy(0, 2, 1, 1, 2)", x.copy(0, 2, 1, 1, 2), 2);
        row("28: to another", x, 1, "0", "4", "4");
        CHECK.due("28: copy(0, 4, 1, 3, 0)", x.copy(0, 4, 1, 3, 0), 0);
        x.value(2, 8);
        x.keep(2, 3, 0, 0);
        x.make(3, 3, 2);
        CHECK.due("28: copy(2, 2, 3, 0, 2)", x.copy(2, 2, 3, 0, 2), 2);
        row("28: longs", x, 3, "8", "0");
        CHECK.due("28: copy(2, 1, 2, 0, 2)", x.copy(2, 1, 2, 0, 2), 2);
        row("28: longs to the left", x, 2, "0", "8", "8", "0", "0");
        row("28: the copy stands", x, 3, "8", "0");
    }

    private static void copyRefusals() {
        TurnSchool x = Puzzles.of(new int[] {1, 0, 0});
        x.make(0, 4, 3);
        x.make(1, 4, 2);
        x.make(2, 3, 2);
        x.keep(3, 1, 0, 0);
        CHECK.due("28: copy(-1, 0, 0, 0, 0)", x.copy(-1, 0, 0, 0, 0), -1);
        CHECK.due("28: copy(0, 0, 8, 0, 0)", x.copy(0, 0, 8, 0, 0), -1);
        CHECK.due("28: copy(4, 0, 8, 0, -1)", x.copy(4, 0, 8, 0, -1), -1);
        CHECK.due("28: copy(4, 0, 0, 0, 0)", x.copy(4, 0, 0, 0, 0), -11);
        CHECK.due("28: copy(3, 0, 4, 0, -1)", x.copy(3, 0, 4, 0, -1), -11);
        CHECK.due("28: copy(3, 0, 0, 0, 0)", x.copy(3, 0, 0, 0, 0), -12);
        CHECK.due("28: copy(0, 0, 3, 0, -1)", x.copy(0, 0, 3, 0, -1), -12);
        CHECK.due("28: copy(3, 0, 3, 0, 0)", x.copy(3, 0, 3, 0, 0), -12);
        CHECK.due("28: copy(0, 0, 2, 0, 9)", x.copy(0, 0, 2, 0, 9), -12);
        CHECK.due("28: copy(2, 0, 0, 0, 0)", x.copy(2, 0, 0, 0, 0), -12);
        CHECK.due("28: copy(0, 0, 1, 0, -1)", x.copy(0, 0, 1, 0, -1), -13);
        CHECK.due("28: copy(0, -1, 1, 0, 1)", x.copy(0, -1, 1, 0, 1), -13);
        CHECK.due("28: copy(0, 0, 1, -1, 1)", x.copy(0, 0, 1, -1, 1), -13);
        CHECK.due("28: copy(0, 0, 1, 0, 3)", x.copy(0, 0, 1, 0, 3), -13);
        CHECK.due("28: copy(1, 1, 0, 0, 2)", x.copy(1, 1, 0, 0, 2), -13);
        CHECK.due("28: copy(0, 4, 1, 0, 0)", x.copy(0, 4, 1, 0, 0), -13);
        CHECK.due("28: copy(0, 0, 1, 3, 0)", x.copy(0, 0, 1, 3, 0), -13);
        int most = Integer.MAX_VALUE;
        CHECK.due("28: copy(0, MAX, 1, MAX, MAX)", x.copy(0, most, 1, most, most), -13);
        CHECK.due("28: copy(0, 1, 1, 1, MAX)", x.copy(0, 1, 1, 1, most), -13);
        CHECK.due("28: copy(2, 2, 2, 3, 0) of longs", x.copy(2, 2, 2, 3, 0), -13);
        CHECK.due("28: copy(2, 2, 2, 2, 0) of longs", x.copy(2, 2, 2, 2, 0), 0);
    }

    private static void weight() {
        int[] weights = {11, 12, 13, 4, 5, 16, 117, 236, 1009, 1010, 2022, 1012, 13};
        TurnSchool x = new TurnSchool();
        for (int kind = 0; kind <= 12; kind++) {
            x.code(0, kind, 1, 1);
            x.keep(kind % 8, 1, 0, 0);
            x.uncode(0);
            CHECK.due("29: weight() of kind " + kind, x.weight(kind % 8), weights[kind]);
        }
        CHECK.due("29: weight(-1)", x.weight(-1), -1);
        CHECK.due("29: weight(8)", x.weight(8), -1);
        x.keep(0, 0, 0, 0);
        CHECK.due("29: weight(0)", x.weight(0), -11);
        x.make(0, 3, 1);
        CHECK.due("29: weight(0)", x.weight(0), -12);
    }

    private static void toss() {
        TurnSchool x = new TurnSchool();
        for (int kind = 0; kind <= 12; kind++) {
            for (int a = 0; a < 3; a++) {
                x.code(0, kind, a, 1);
                x.keep(0, 1, 0, 0);
                x.uncode(0);
                CHECK.due("30: toss() of kind " + kind, x.toss(0), kind >= 8 && kind <= 11 ? a : -15);
            }
        }
        CHECK.due("30: toss(-1)", x.toss(-1), -1);
        CHECK.due("30: toss(8)", x.toss(8), -1);
        CHECK.due("30: toss(1)", x.toss(1), -11);
        x.make(1, 4, 1);
        CHECK.due("30: toss(1)", x.toss(1), -12);
    }
}
