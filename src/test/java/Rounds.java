/** Rounds that are played by simple rules. */
final class Rounds {
    private Rounds() {
    }

    /** A round of the deal in which each hand lays what it finds, until few tiles are left or it has ended. */
    static ClockDominoes untilFew(int number, int tiles) {
        ClockDominoes x = new ClockDominoes();
        x.deal(number);
        x.set(60);
        x.begin(number % 4);
        for (int step = 0; step < 200 && x.count(0) == 1 && held(x) > tiles; step++) {
            layOrPass(x, (number + step) % 2 == 0);
        }
        return x;
    }

    static int held(ClockDominoes x) {
        return x.hand(0, 0) + x.hand(1, 0) + x.hand(2, 0) + x.hand(3, 0);
    }

    static void makeNeutral(ClockDominoes x) {
        for (int step = 0; step < 4 && x.count(15) == 0; step++) {
            x.clock(1);
        }
    }

    private static void layOrPass(ClockDominoes x, boolean fromTop) {
        int hand = x.count(1);
        makeNeutral(x);
        for (int each = 0; each < 28; each++) {
            int tile = fromTop ? 27 - each : each;
            for (int end = 0; end <= 1; end++) {
                if (x.why(hand, tile, end) == 0) {
                    x.lay(hand, tile, end);
                    return;
                }
            }
        }
        x.pass(hand);
    }
}
