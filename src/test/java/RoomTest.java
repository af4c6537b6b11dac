import java.lang.management.ManagementFactory;

/** All calls of a run live in one room: the dearest runs must stay far below it. */
public final class RoomTest {
    private static final Check CHECK = new Check();
    /** 7.3 million elements of at least one byte; most of ours have four or eight. */
    private static final long MOST_BYTES = 2_000_000;

    public static void main(String[] args) {
        measured("fixes of ever new puzzles", RoomTest::fixes);
        measured("spent pictures", RoomTest::pictures);
        measured("rows", RoomTest::rows);
        CHECK.end();
    }

    private static long allocated() {
        return ((com.sun.management.ThreadMXBean) ManagementFactory.getThreadMXBean()).getCurrentThreadAllocatedBytes();
    }

    private static void measured(String name, Runnable calls) {
        long begun = System.nanoTime();
        long before = allocated();
        calls.run();
        long bytes = allocated() - before;
        System.out.println(name + ": " + bytes + " bytes, " + (System.nanoTime() - begun) / 1_000_000 + " ms");
        CHECK.due(name + " within its room", bytes > MOST_BYTES ? bytes : 0, 0);
    }

    private static void fixes() {
        int[] first = {6, 0, 1, 6, 1, 3, 1, 3, 0, 4, 0, 0};
        int[] second = {6, 2, 1, 6, 0, 3, 1, 3, 0, 4, 0, 0};
        TurnSchool x = Puzzles.of(first, second);
        for (int k = 0; k < 250; k++) {
            x.value(0, 1 + k % 9);
            x.fix(k % 3, 3, 1);
        }
    }

    private static void pictures() {
        TurnSchool x = Puzzles.spent();
        for (int k = 0; k < 245; k++) {
            x.value(3, 1 + k % 9);
            x.explain();
        }
    }

    private static void rows() {
        TurnSchool x = new TurnSchool();
        for (int k = 0; k < 512; k++) {
            x.make(k % 8, 3, 60);
        }
    }
}
