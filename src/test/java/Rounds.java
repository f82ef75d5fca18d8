import java.util.ArrayList;
import java.util.HashMap;
import java.util.List;
import java.util.Map;

/**
 * Rounds that are played by simple rules. The plain model finds the calls, so that an object of the class is asked
 * for nothing on its way: it is used for at most 512 calls.
 */
final class Rounds {
    private static final Map<Integer, List<int[]>> MOVES = new HashMap<>();
    private static final int[] CLOCK = {};

    private Rounds() {
    }

    /** A round of the deal in which each hand lays what it finds, until few tiles are left or it has ended. */
    static ClockDominoes untilFew(int number, int tiles) {
        ClockDominoes x = new ClockDominoes();
        x.deal(number);
        x.set(60);
        x.begin(number % 4);
        int left = 28;
        for (int[] move : MOVES.computeIfAbsent(number, Rounds::movesOf)) {
            if (left <= tiles) {
                return x;
            }
            left -= move.length == 3 ? 1 : 0;
            go(x, move);
        }
        return x;
    }

    /** A round of the deal, up to its end, in which each hand lays its tile with the most pips. */
    static ClockDominoes heaviest(int number, int first) {
        PlainModel guide = new PlainModel();
        ClockDominoes x = new ClockDominoes();
        guide.deal(number);
        x.deal(number);
        guide.set(60);
        x.set(60);
        guide.begin(first);
        x.begin(first);
        for (int step = 0; step < 200 && guide.count(0) == 1; step++) {
            while (guide.count(15) == 0) {
                guide.clock(1);
                x.clock(1);
            }
            go(x, layHeaviest(guide));
        }
        return x;
    }

    static int held(ClockDominoes x) {
        return x.hand(0, 0) + x.hand(1, 0) + x.hand(2, 0) + x.hand(3, 0);
    }

    static void makeNeutral(ClockDominoes x) {
        for (int step = 0; step < 4 && x.count(15) == 0; step++) {
            x.clock(1);
        }
    }

    /** A move: nothing (the clock goes on), a hand that passes, or a hand, a tile and an end. */
    private static void go(ClockDominoes x, int[] move) {
        if (move.length == 0) {
            x.clock(1);
        } else if (move.length == 1) {
            x.pass(move[0]);
        } else {
            x.lay(move[0], move[1], move[2]);
        }
    }

    private static List<int[]> movesOf(int number) {
        PlainModel guide = new PlainModel();
        guide.deal(number);
        guide.set(60);
        guide.begin(number % 4);
        List<int[]> moves = new ArrayList<>();
        for (int step = 0; step < 200 && guide.count(0) == 1; step++) {
            while (guide.count(15) == 0) {
                guide.clock(1);
                moves.add(CLOCK);
            }
            moves.add(layOrPass(guide, (number + step) % 2 == 0));
        }
        return moves;
    }

    private static int[] layOrPass(PlainModel guide, boolean fromTop) {
        int hand = guide.count(1);
        for (int each = 0; each < 28; each++) {
            int tile = fromTop ? 27 - each : each;
            for (int end = 0; end <= 1; end++) {
                if (guide.why(hand, tile, end) == 0) {
                    guide.lay(hand, tile, end);
                    return new int[] {hand, tile, end};
                }
            }
        }
        guide.pass(hand);
        return new int[] {hand};
    }

    private static int[] layHeaviest(PlainModel guide) {
        int hand = guide.count(1);
        int[] best = {hand};
        int most = -1;
        for (int option = 0; option < 56; option++) {
            int tile = 27 - option / 2;
            int end = option % 2;
            int weight = 2 * guide.tile(tile, 2) + 1 - end;
            if (guide.why(hand, tile, end) == 0 && weight > most) {
                most = weight;
                best = new int[] {hand, tile, end};
            }
        }
        if (best.length == 1) {
            guide.pass(hand);
        } else {
            guide.lay(hand, best[1], best[2]);
        }
        return best;
    }
}
