/** Puzzles that several tests use. */
final class Puzzles {
    private Puzzles() {
    }

    /** A puzzle by its hands' rows of (kind, a, n). */
    static TurnSchool of(int[]... hands) {
        TurnSchool school = new TurnSchool();
        school.puzzle(hands.length);
        for (int hand = 0; hand < hands.length; hand++) {
            for (int i = 0; i < hands[hand].length; i += 3) {
                int place = school.code(hand, hands[hand][i], hands[hand][i + 1], hands[hand][i + 2]);
                if (place != i / 3) {
                    throw new IllegalStateException("a test's statement was refused");
                }
            }
        }
        return school;
    }

    /** Independent hands of 24, 9 and 7 steps: 25 x 10 x 8 states, the most there may be. */
    static TurnSchool full() {
        TurnSchool school = new TurnSchool();
        school.puzzle(3);
        for (int i = 0; i < 8; i++) {
            school.code(0, 6, 0, 0);
        }
        for (int i = 0; i < 3; i++) {
            school.code(1, 6, 1, 0);
        }
        for (int i = 0; i < 7; i++) {
            school.code(2, 3, 0, 0);
        }
        return school;
    }

    /** One step more than full(): 2250 states by TRUE. */
    static TurnSchool spent() {
        TurnSchool school = full();
        school.code(2, 3, 0, 0);
        return school;
    }
}
