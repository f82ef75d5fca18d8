import java.math.BigInteger;
import java.util.ArrayList;
import java.util.List;

/** The sentences of the promises 19 to 24, 31 and 32 that name a boundary case. */
public final class LookEdgesTests {
    private static final Checks CHECKS = new Checks();

    public static void main(String[] args) {
        tileIsNotInTheChain();
        tileFitsAnEnd();
        tileInWhateverOrder();
        chainHasNotSoMany();
        chainIsLong();
        handWithoutTiles();
        handWithSeven();
        handBeforeTheFirstRound();
        handOfTheLatestRound();
        longestChainOfAHand();
        countBeforeTheFirstRound();
        countInARound();
        countsGoOn();
        whyNot();
        meanOfTheHands();
        digestOverflows();
        digestTellsOfEach();
        CHECKS.end();
    }

    /** "NONE for 4 and 5, if it is not in the chain": in the box, in a hand, gathered; not NONE: laid by 0 at 0. */
    private static void tileIsNotInTheChain() {
        ClockDominoes x = new ClockDominoes();
        for (int what = 4; what <= 5; what++) {
            CHECKS.same("19: in the box", x.tile(0, what), -1);
        }
        ClockDominoes y = Games.sortedRound(0);
        for (int what = 4; what <= 5; what++) {
            CHECKS.same("19: in a hand", y.tile(0, what), -1);
        }
        y.lay(0, 0, 1);
        CHECKS.same("19: the first place", y.tile(0, 4), 0);
        CHECKS.same("19: laid by the first hand", y.tile(0, 5), 0);
        ClockDominoes z = Games.rowEnded();
        CHECKS.same("19: the last place", z.tile(18, 4), 6);
        z.gather();
        for (int what = 4; what <= 5; what++) {
            CHECKS.same("19: gathered", z.tile(18, what), -1);
        }
    }

    /** "1 if it fits an end of the chain, otherwise 0": the left one, the right one, both, neither; no chain. */
    private static void tileFitsAnEnd() {
        ClockDominoes x = Games.sortedRound(0);
        for (int tile = 0; tile < 28; tile++) {
            CHECKS.same("19: the empty chain", x.tile(tile, 6), 1);
        }
        x.lay(0, 6, 0);
        for (int tile = 0; tile < 28; tile++) {
            boolean fits = x.tile(tile, 0) == 0 || x.tile(tile, 1) == 6;
            CHECKS.same("19: the ends 0 and 6, " + tile, x.tile(tile, 6), fits ? 1 : 0);
        }
    }

    /** "In whatever order the values are told": all 49 pairs. */
    private static void tileInWhateverOrder() {
        ClockDominoes x = new ClockDominoes();
        int[] firsts = {0, 7, 13, 18, 22, 25, 27};
        for (int one = -1; one <= 7; one++) {
            for (int other = -1; other <= 7; other++) {
                int first = one;
                int second = other;
                if (one < 0 || one > 6 || other < 0 || other > 6) {
                    CHECKS.noPlace("20: " + one + " and " + other, () -> x.tileOf(first, second));
                } else {
                    int due = firsts[Math.min(one, other)] + Math.abs(one - other);
                    CHECKS.due("20: " + one + " and " + other, () -> x.tileOf(first, second), due);
                }
            }
        }
    }

    /** "NONE if there are not so many": the empty chain, one place too far, as far as can be. */
    private static void chainHasNotSoMany() {
        ClockDominoes empty = new ClockDominoes();
        ClockDominoes x = Games.rowEnded();
        for (int what = 0; what <= 3; what++) {
            CHECKS.same("21: the empty chain, " + what, empty.chain(0, what), -1);
            CHECKS.same("21: the last place, " + what, x.chain(6, what), new int[] {18, 3, 3, 7}[what]);
            CHECKS.same("21: one too far, " + what, x.chain(7, what), -1);
            CHECKS.same("21: 28, " + what, x.chain(28, what), -1);
            CHECKS.same("21: as far as can be, " + what, x.chain(Integer.MAX_VALUE, what), -1);
        }
        for (int place : new int[] {-1, Integer.MIN_VALUE}) {
            CHECKS.noPlace("21: below 0", () -> x.chain(place, 0));
            CHECKS.noPlace("21: below 0, and what is none", () -> x.chain(place, 4));
        }
        for (int what : new int[] {-1, 4}) {
            CHECKS.noArgument("21: what is none", () -> x.chain(0, what));
            CHECKS.noArgument("21: what is none, and there are not so many", () -> empty.chain(0, what));
        }
    }

    /** In a long chain each tile lies at the one before it, and each lay has its number. */
    private static void chainIsLong() {
        int longest = 0;
        for (int number = 0; number < 100; number++) {
            ClockDominoes x = Rounds.untilFew(number, 0);
            int size = x.count(3);
            longest = Math.max(longest, size);
            int numbers = 0;
            for (int place = 0; place < size; place++) {
                int tile = x.chain(place, 0);
                numbers |= 1 << x.chain(place, 3);
                CHECKS.same("21: the values", x.chain(place, 1) + x.chain(place, 2), x.tile(tile, 2));
                CHECKS.same("19: the place", x.tile(tile, 4), place);
                int right = place + 1 < size ? x.chain(place + 1, 1) : x.count(5);
                CHECKS.same("21: the right value", x.chain(place, 2), right);
            }
            CHECKS.same("23: the left end", x.chain(0, 1), x.count(4));
            CHECKS.same("21: the lays from 1 to " + size, numbers, (1 << size + 1) - 2);
        }
        CHECKS.same("21: long chains were seen", longest > 20, true);
    }

    private static void handOf(String name, ClockDominoes x, int hand, int... due) {
        for (int what = 0; what <= 9; what++) {
            CHECKS.same("22: " + name + ", hand(" + hand + ", " + what + ")", x.hand(hand, what), due[what]);
        }
    }

    /** A hand without tiles: ahead of all, and behind the round that it ended. */
    private static void handWithoutTiles() {
        for (int hand = 0; hand < 4; hand++) {
            handOf("a new object", new ClockDominoes(), hand, 0, 0, 0, 0, 0, 0, 0, -1, 1, 0);
        }
        ClockDominoes x = Games.rowEnded();
        handOf("its last tile is laid", x, 0, 0, 0, 20, 0, 0, 0, 0, -1, 1, 0);
        x.gather();
        handOf("gathered", x, 0, 0, 0, 20, 0, 0, 0, 0, -1, 1, 0);
        handOf("gathered, passed six times", x, 3, 0, 0, 0, 0, 0, 6, 0, -1, 1, 0);
    }

    /** A hand with seven tiles: the most pips, the most doubles. */
    private static void handWithSeven() {
        ClockDominoes x = new ClockDominoes();
        Games.given(x, "3:66,56,55,46,36,45,26;0:00,11,22,33,44");
        handOf("the most pips", x, 3, 7, 69, 0, 0, 7, 0, 2, 17, 1, 7);
        handOf("five doubles", x, 0, 5, 20, 0, 0, 5, 0, 5, 0, 1, 1);
    }

    /** "Its time ..., 0 ahead of the first one": also with a setting, and with all tiles dealt. */
    private static void handBeforeTheFirstRound() {
        ClockDominoes x = Games.sorted();
        x.set(60);
        for (int hand = 0; hand < 4; hand++) {
            CHECKS.same("22: no time", x.hand(hand, 2), 0);
            CHECKS.same("22: no passes", x.hand(hand, 5), 0);
            CHECKS.same("22: it can not pass", x.hand(hand, 8), 1);
        }
        x.begin(0);
        x.undo();
        CHECKS.same("22: no time again", x.hand(0, 2), 0);
    }

    /** "In the round of now or the latest one": behind it, gathered, dealt again, and then anew. */
    private static void handOfTheLatestRound() {
        ClockDominoes x = Games.sortedRound(0);
        Games.played(x, "l00<;t3;p;p;p;t20;p");
        for (int step = 0; step < 3; step++) {
            CHECKS.same("22: the time of 1, step " + step, x.hand(1, 2), 17);
            CHECKS.same("22: the time of 0, step " + step, x.hand(0, 2), 0);
            CHECKS.same("22: the passes of 1, step " + step, x.hand(1, 5), 1);
            CHECKS.same("23: one behind the other, step " + step, x.count(12), 4);
            CHECKS.same("23: the clock, step " + step, x.count(2), 1);
            CHECKS.same("23: the latest hand, step " + step, x.count(16), step == 0 ? 0 : -1);
            int next = step == 0 ? x.gather() : x.deal(0);
            CHECKS.same("3, 5: all, step " + step, next, step == 2 ? 0 : 28);
        }
        x.begin(3);
        CHECKS.same("22: the time is new", x.hand(1, 2), 20);
        CHECKS.same("22: the passes are new", x.hand(1, 5), 0);
        CHECKS.same("23: none passed", x.count(12), 0);
        CHECKS.same("23: the clock is new", x.count(2), 0);
    }

    private static void longestOf(String tiles, int due) {
        ClockDominoes x = new ClockDominoes();
        Games.given(x, "1:" + tiles);
        CHECKS.same("22: the longest chain of " + tiles, x.hand(1, 9), due);
    }

    /** "The longest chain that can be made of its tiles alone": one tile, none that fit, all seven, a circle. */
    private static void longestChainOfAHand() {
        longestOf("06", 1);
        longestOf("66", 1);
        longestOf("00,11,22,33,44,55,66", 1);
        longestOf("06,66", 2);
        longestOf("00,06,66", 3);
        longestOf("01,12,23,34,45,56,06", 7);
        longestOf("66,56,45,34,23,12,01", 7);
        longestOf("01,02,03,04,05,06,00", 3);
        longestOf("01,02,12,34,35,45,66", 3);
        longestOf("01,12,02,23,34,24,56", 6);
        ClockDominoes x = Games.sortedRound(0);
        int before = x.hand(0, 9);
        x.lay(0, 0, 0);
        CHECKS.same("22: the double that joined is laid", x.hand(0, 9), before - 1);
        CHECKS.same("22: of (0, 1) to (0, 6)", x.hand(0, 9), 2);
    }

    private static void counts(String name, ClockDominoes x, int... due) {
        for (int what = 0; what <= 18; what++) {
            CHECKS.same("23: " + name + ", count(" + what + ")", x.count(what), due[what]);
        }
    }

    /** NONE "if no round is on", "ahead of the first round", "without tiles", "without one". */
    private static void countBeforeTheFirstRound() {
        counts("a new object", new ClockDominoes(), 0, -1, -1, 0, -1, -1, 0, 0, 0, 0, 0, 0, 0, 0, 28, 0, -1, 20, 0);
        counts("dealt", Games.sorted(), 0, -1, -1, 0, -1, -1, 0, 0, 0, 0, 0, 0, 0, 0, 0, 0, -1, 20, 2);
    }

    /** The first hand and the last one, the lowest end and the highest one; the end of a round; gathered. */
    private static void countInARound() {
        counts("begun by 0", Games.sortedRound(0), 1, 0, 1, 0, -1, -1, 0, 0, 0, 1, 0, 0, 0, 0, 0, 1, -1, 20, 3);
        counts("begun by 3", Games.sortedRound(3), 1, 3, 0, 0, -1, -1, 0, 0, 0, 1, 0, 0, 0, 0, 0, 1, -1, 20, 3);
        ClockDominoes x = Games.sortedRound(0);
        x.lay(0, 0, 0);
        counts("(0, 0) lies", x, 1, 1, 1, 1, 0, 0, 0, 0, 0, 1, 1, 0, 0, 0, 0, 0, 0, 20, 4);
        ClockDominoes y = Games.sortedRound(3);
        y.lay(3, 27, 0);
        counts("(6, 6) lies", y, 1, 0, 0, 1, 6, 6, 12, 0, 0, 1, 1, 0, 0, 0, 0, 0, 3, 20, 4);
        ClockDominoes ended = Games.rowEnded();
        counts("behind a round", ended, 2, -1, 1, 7, 0, 3, 6, 29, 0, 1, 7, 18, 0, 0, 0, 0, 0, 20, 5);
        ended.gather();
        counts("gathered", ended, 0, -1, 1, 0, -1, -1, 0, 29, 0, 1, 7, 18, 0, 0, 28, 0, -1, 20, 6);
    }

    /** "So far": rounds, lays, passes, points and how often the clock was handed on go on in the next round. */
    private static void countsGoOn() {
        ClockDominoes x = Games.rowEnded();
        x.gather();
        x.deal(0);
        x.begin(1);
        x.clock(1);
        x.tick(20);
        x.pass(1);
        CHECKS.same("23: rounds", x.count(9), 2);
        CHECKS.same("23: lays", x.count(10), 7);
        CHECKS.same("23: passes", x.count(11), 19);
        CHECKS.same("23: handed on", x.count(13), 1);
        CHECKS.same("23: points", x.count(7), 29);
        CHECKS.same("23: one behind the other", x.count(12), 1);
    }

    /** "0 if it can, otherwise 1 to 6": each of them, and at each end. */
    private static void whyNot() {
        ClockDominoes x = Games.sorted();
        CHECKS.same("24: 1", x.why(0, 0, 0), 1);
        x.begin(0);
        int[][] due = {{0, 0, 0}, {1, 7, 2}, {0, 7, 3}};
        for (int[] each : due) {
            for (int end = 0; end <= 1; end++) {
                CHECKS.same("24: " + each[2] + " at " + end, x.why(each[0], each[1], end), each[2]);
            }
        }
        x.lay(0, 4, 0);
        CHECKS.same("24: 4 at the left", x.why(1, 10, 0), 4);
        CHECKS.same("24: 5 at the right", x.why(1, 10, 1), 5);
        x.clock(1);
        CHECKS.same("24: 0 at the right", x.why(1, 10, 1), 0);
        x.tick(99);
        CHECKS.same("24: 4 at the left, without time", x.why(1, 10, 0), 4);
        CHECKS.same("24: 6 at the right", x.why(1, 10, 1), 6);
    }

    /** "0.0f without any": no tiles, no pips, the most pips, a share that is no binary one, not the chain. */
    private static void meanOfTheHands() {
        ClockDominoes x = new ClockDominoes();
        CHECKS.same("31: no tiles", x.meanPips(), 0.0f);
        x.give(0, 0);
        CHECKS.same("31: no pips", x.meanPips(), 0.0f);
        x.undo();
        x.give(3, 27);
        CHECKS.same("31: the most pips", x.meanPips(), 12.0f);
        Games.given(x, "0:01;1:12");
        CHECKS.same("31: 16 by 3", x.meanPips(), 16.0f / 3.0f);
        CHECKS.same("31: all", Games.sorted().meanPips(), 6.0f);
        ClockDominoes round = Games.sortedRound(3);
        round.lay(3, 27, 0);
        CHECKS.same("31: 156 by 27", round.meanPips(), 156.0f / 27.0f);
        CHECKS.same("31: behind a round, 147 by 21", Games.rowEnded().meanPips(), 7.0f);
        round = Games.rowEnded();
        round.gather();
        CHECKS.same("31: gathered", round.meanPips(), 0.0f);
    }

    /** The hash in numbers without a bound; the low 64 bits of it are due. Two objects alike are asked. */
    private static BigInteger hashOf(ClockDominoes x, ClockDominoes alike, boolean snapshot, String buffer) {
        List<Long> values = new ArrayList<>();
        for (int what = 0; what <= 18; what++) {
            values.add((long) alike.count(what));
        }
        for (int each = 0; each < 28 * 7; each++) {
            values.add((long) alike.tile(each / 7, each % 7));
        }
        int size = x.count(3);
        for (int each = 0; each < 4 * size; each++) {
            values.add((long) x.chain(each / 4, each % 4));
        }
        for (int hand = 0; hand < 4; hand++) {
            for (int what = 0; what <= 9; what++) {
                values.add((long) x.hand(hand, what));
            }
            values.add((long) x.deals(hand, 0));
            values.add((long) x.deals(hand, 1));
        }
        for (int hand = 1; hand <= 3; hand++) {
            for (int tile : new int[] {0, 13, 27}) {
                values.add((long) x.having(0, hand, tile));
            }
        }
        for (int hand = 0; hand <= 3; hand++) {
            values.add((long) x.sure(1, hand));
        }
        for (int what = 0; what <= 2; what++) {
            values.add((long) x.open(what));
        }
        values.add(Double.doubleToLongBits(x.likely(2, 3, 6)));
        values.add((long) Float.floatToIntBits(x.meanPips()));
        values.add(snapshot ? 1L : 0L);
        values.add((long) buffer.length());
        buffer.chars().forEach(code -> values.add((long) code));
        BigInteger hash = BigInteger.valueOf(3793);
        for (long value : values) {
            hash = hash.multiply(BigInteger.valueOf(31)).add(BigInteger.valueOf(value));
        }
        return hash;
    }

    /** "In long arithmetic with overflow": the hash is far beyond a long, and comes out above 0 and below 0. */
    private static void digestOverflows() {
        int below = 0;
        int above = 0;
        for (int number = 0; number < 40; number++) {
            ClockDominoes x = Rounds.untilFew(number, number % 29);
            String buffer = "~".repeat(number % 21 * 3);
            Games.write(x, buffer);
            if (number % 2 == 1) {
                x.keep();
            }
            BigInteger hash = hashOf(x, Rounds.untilFew(number, number % 29), number % 2 == 1, buffer);
            CHECKS.same("32: beyond a long", hash.bitLength() > 64, true);
            CHECKS.same("32: deal " + number, x.digest(), hash.longValue());
            below += x.digest() < 0 ? 1 : 0;
            above += x.digest() > 0 ? 1 : 0;
        }
        CHECKS.same("32: below 0 and above 0", below > 5 && above > 5, true);
    }

    private static void tellsOf(String name, ClockDominoes x, Checks.Call change) {
        long before = x.digest();
        Checks.told(change);
        CHECKS.same("32: it tells of " + name, x.digest() != before, true);
    }

    /** It tells of the buffer's length and codes, of the first snapshot, of what is saved; not of a later snapshot. */
    private static void digestTellsOfEach() {
        ClockDominoes x = new ClockDominoes();
        tellsOf("a character", x, () -> x.append(33));
        long one = x.digest();
        x.clearBuffer();
        x.append(34);
        CHECKS.same("32: it tells of the code", x.digest() - one, 1L);
        tellsOf("no character", x, x::clearBuffer);
        tellsOf("a snapshot", x, x::keep);
        long kept = x.digest();
        x.keep();
        CHECKS.same("32: not of a second one", x.digest(), kept);
        tellsOf("a saved state", x, () -> x.set(20));
        for (int each = 0; each < 5; each++) {
            x.set(20);
        }
        long six = x.digest();
        x.set(20);
        CHECKS.same("32: still six saved states", x.digest(), six);
        CHECKS.same("32: it changes nothing itself", x.digest(), six);
    }
}
