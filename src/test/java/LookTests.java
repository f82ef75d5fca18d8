/** Promises 19 to 24: tile, tileOf, chain, hand, count, why. */
public final class LookTests {
    private static final Checks CHECKS = new Checks();

    public static void main(String[] args) {
        tile();
        tileInChain();
        tileOf();
        chain();
        hand();
        handInRound();
        longestChains();
        count();
        why();
        CHECKS.end();
    }

    private static void tile() {
        ClockDominoes x = new ClockDominoes();
        int number = 0;
        for (int a = 0; a <= 6; a++) {
            for (int b = a; b <= 6; b++) {
                CHECKS.same("19: tile(" + number + ", 0)", x.tile(number, 0), a);
                CHECKS.same("19: tile(" + number + ", 1)", x.tile(number, 1), b);
                CHECKS.same("19: tile(" + number + ", 2)", x.tile(number, 2), a + b);
                number++;
            }
        }
        x.give(2, 9);
        CHECKS.same("19: where it is", x.tile(9, 3), 2);
        CHECKS.same("19: no place", x.tile(9, 4), -1);
        CHECKS.same("19: no layer", x.tile(9, 5), -1);
        CHECKS.noPlace("19: tile(28, 0)", () -> x.tile(28, 0));
        CHECKS.noPlace("19: tile(-1, 7)", () -> x.tile(-1, 7));
        CHECKS.noPlace("19: tile(-2147483648, 0)", () -> x.tile(Integer.MIN_VALUE, 0));
        CHECKS.noArgument("19: tile(27, 7)", () -> x.tile(27, 7));
        CHECKS.noArgument("19: tile(0, -1)", () -> x.tile(0, -1));
        CHECKS.same("19: looks save nothing", x.count(18), 1);
    }

    private static void tileInChain() {
        ClockDominoes x = Games.sortedRound(0);
        Games.played(x, "l06<;c+;l26<;c+;l16<;l26>;t9");
        CHECKS.same("19: one tile lies", x.tile(6, 4), 0);
        CHECKS.same("19: in the chain", x.tile(6, 3), 4);
        CHECKS.same("19: laid by 0", x.tile(6, 5), 0);
        Games.played(x, "l16>");
        CHECKS.same("19: the second place", x.tile(12, 4), 1);
        CHECKS.same("19: laid by 1", x.tile(12, 5), 1);
        CHECKS.same("19: 0 fits the left end", x.tile(3, 6), 1);
        CHECKS.same("19: 1 fits the right end", x.tile(10, 6), 1);
        CHECKS.same("19: 6 is inside", x.tile(27, 6), 0);
        CHECKS.same("19: a laid one fits by its value too", x.tile(6, 6), 1);
        CHECKS.same("19: neither", x.tile(13, 6), 0);
        ClockDominoes ended = Games.rowEnded();
        CHECKS.same("19: behind the round", ended.tile(18, 4), 6);
        CHECKS.same("19: 3 still fits", ended.tile(21, 6), 1);
        ended.gather();
        CHECKS.same("19: gathered, no place", ended.tile(18, 4), -1);
        CHECKS.same("19: gathered, no layer", ended.tile(18, 5), -1);
        CHECKS.same("19: gathered, all fit", ended.tile(26, 6), 1);
    }

    private static void tileOf() {
        ClockDominoes x = new ClockDominoes();
        for (int tile = 0; tile < 28; tile++) {
            int a = x.tile(tile, 0);
            int b = x.tile(tile, 1);
            CHECKS.same("20: tileOf(" + a + ", " + b + ")", x.tileOf(a, b), tile);
            CHECKS.same("20: tileOf(" + b + ", " + a + ")", x.tileOf(b, a), tile);
        }
        CHECKS.noPlace("20: tileOf(7, 0)", () -> x.tileOf(7, 0));
        CHECKS.noPlace("20: tileOf(0, 7)", () -> x.tileOf(0, 7));
        CHECKS.noPlace("20: tileOf(-1, 0)", () -> x.tileOf(-1, 0));
        CHECKS.noPlace("20: tileOf(0, -1)", () -> x.tileOf(0, -1));
    }

    private static void chain() {
        ClockDominoes x = Games.sortedRound(0);
        for (int what = 0; what <= 3; what++) {
            CHECKS.same("21: an empty chain", x.chain(0, what), -1);
        }
        Games.played(x, "l05<;c+");
        CHECKS.same("21: (0, 5) lies with its 0 to the left", Games.played(x, "l15<"), 0);
        CHECKS.same("21: (1, 5) fits at the right", Games.played(x, "l15>"), 1);
        int[][] due = {{5, 0, 5, 1}, {11, 5, 1, 2}};
        for (int place = 0; place < 2; place++) {
            for (int what = 0; what <= 3; what++) {
                CHECKS.same("21: chain(" + place + ", " + what + ")", x.chain(place, what), due[place][what]);
            }
        }
        CHECKS.same("21: not so many", x.chain(2, 0), -1);
        CHECKS.same("21: far too many", x.chain(Integer.MAX_VALUE, 3), -1);
        CHECKS.noPlace("21: chain(-1, 0)", () -> x.chain(-1, 0));
        CHECKS.noPlace("21: chain(-1, 9)", () -> x.chain(-1, 9));
        CHECKS.noArgument("21: chain(0, 4)", () -> x.chain(0, 4));
        CHECKS.noArgument("21: chain(99, -1)", () -> x.chain(99, -1));
        laysOfTheRound();
    }

    private static void laysOfTheRound() {
        ClockDominoes x = Games.rowEnded();
        for (int place = 0; place < 7; place++) {
            CHECKS.same("21: the lay of " + place, x.chain(place, 3), place + 1);
        }
        x.gather();
        CHECKS.same("21: gathered", x.chain(0, 0), -1);
        Games.given(x, Games.ZERO_AND_ONE);
        Games.given(x, Games.TWO_AND_THREE);
        x.begin(3);
        x.lay(3, 27, 0);
        CHECKS.same("21: the first lay of the second round", x.chain(0, 3), 1);
        CHECKS.same("21: lays of both rounds", x.count(10), 8);
    }

    private static void hand() {
        ClockDominoes x = Games.sorted();
        int[][] due = {
            {7, 21, 0, 0, 7, 0, 1, 0, 1, 3}, {7, 31, 0, 0, 7, 0, 2, 7, 1, 4},
            {7, 47, 0, 0, 7, 0, 1, 14, 1, 7}, {7, 69, 0, 0, 7, 0, 3, 21, 1, 7}
        };
        for (int hand = 0; hand < 4; hand++) {
            for (int what = 0; what <= 9; what++) {
                CHECKS.same("22: hand(" + hand + ", " + what + ")", x.hand(hand, what), due[hand][what]);
            }
        }
        CHECKS.noPlace("22: hand(4, 0)", () -> x.hand(4, 0));
        CHECKS.noPlace("22: hand(-1, 10)", () -> x.hand(-1, 10));
        CHECKS.noArgument("22: hand(3, 10)", () -> x.hand(3, 10));
        CHECKS.noArgument("22: hand(0, -1)", () -> x.hand(0, -1));
    }

    private static void handInRound() {
        ClockDominoes x = Games.sortedRound(0);
        CHECKS.same("22: can not pass on an empty chain", x.hand(0, 8), 3);
        CHECKS.same("22: not its turn", x.hand(1, 8), 2);
        CHECKS.same("22: all fit", x.hand(3, 4), 7);
        Games.played(x, "l01<;c+");
        CHECKS.same("22: seven with a 0 or 1 less one", x.hand(0, 4), 6);
        CHECKS.same("22: six with a 1", x.hand(1, 4), 6);
        CHECKS.same("22: none", x.hand(2, 4), 0);
        CHECKS.same("22: it has time, and one fits", x.hand(1, 8), 3);
        x.tick(20);
        CHECKS.same("22: without time it can", x.hand(1, 8), 0);
        x.pass(1);
        CHECKS.same("22: none fits, it can", x.hand(2, 8), 0);
        x.pass(2);
        CHECKS.same("22: it lacks 0 and 1", x.hand(2, 3), 3);
        CHECKS.same("22: its passes", x.hand(2, 5), 1);
        CHECKS.same("22: nothing of 3", x.hand(3, 3), 0);
        CHECKS.same("22: the lowest one of 0", x.hand(0, 7), 0);
        ClockDominoes ended = Games.rowEnded();
        CHECKS.same("22: behind the round, no tiles", ended.hand(0, 0), 0);
        CHECKS.same("22: no lowest one", ended.hand(0, 7), -1);
        CHECKS.same("22: no chain", ended.hand(0, 9), 0);
        CHECKS.same("22: no round", ended.hand(1, 8), 1);
        CHECKS.same("22: its time", ended.hand(0, 2), 20);
        CHECKS.same("22: two of 1 have a 0 or a 3", ended.hand(1, 4), 6);
    }

    private static void longestOf(String tiles, int due) {
        ClockDominoes x = new ClockDominoes();
        Games.given(x, "2:" + tiles);
        CHECKS.same("22: the longest chain of " + tiles, x.hand(2, 9), due);
    }

    private static void longestChains() {
        longestOf("00", 1);
        longestOf("00,11", 1);
        longestOf("00,01,11", 3);
        longestOf("00,01,02", 3);
        longestOf("01,02,03", 2);
        longestOf("01,12,02", 3);
        longestOf("01,12,02,33", 3);
        longestOf("01,02,03,11,22,33", 4);
        longestOf("01,02,03,12,13,23", 5);
        longestOf("01,02,03,12,13,23,00", 6);
        longestOf("01,23,45,66", 1);
        longestOf("06,16,26,36,46,56,66", 3);
        longestOf("01,12,23,34,45,56,06", 7);
        longestOf("06,56,45,34,23,12,11", 7);
    }

    private static void count() {
        ClockDominoes x = Games.sortedRound(0);
        Games.played(x, "l05<;c+;t2;l15>;c+;c+;c-");
        int[] due = {1, 2, 3, 2, 0, 1, 1, 1, 0, 1, 2, 0, 0, 4, 0, 1, 1, 20, 4};
        for (int what = 0; what < due.length; what++) {
            CHECKS.same("23: count(" + what + ")", x.count(what), due[what]);
        }
        CHECKS.noArgument("23: count(19)", () -> x.count(19));
        CHECKS.noArgument("23: count(-1)", () -> x.count(-1));
        x.clock(0);
        CHECKS.same("23: not neutral, held by the turn", x.count(15), 0);
        x.clock(0);
        CHECKS.same("23: not neutral, held by the latest one", x.count(15), 0);
        x.clock(0);
        CHECKS.same("23: neutral", x.count(15), 1);
        openSums();
    }

    private static void openSums() {
        ClockDominoes x = Games.sortedRound(3);
        x.lay(3, 27, 1);
        CHECKS.same("23: one double counts its pips", x.count(6), 12);
        Games.played(x, "c+;l06<");
        CHECKS.same("23: 0 and the double 6", x.count(6), 12);
        CHECKS.same("23: the left end", x.count(4), 0);
        CHECKS.same("23: the right end", x.count(5), 6);
        Games.played(x, "c+;l16>");
        CHECKS.same("23: 0 and 1", x.count(6), 1);
        Games.played(x, "t20;p;t20;p;l00<");
        CHECKS.same("23: four tiles", x.count(3), 4);
        CHECKS.same("23: the double 0 and 1", x.count(6), 1);
        Games.played(x, "l11>");
        CHECKS.same("23: the double 0 and the double 1", x.count(6), 2);
    }

    private static void why() {
        ClockDominoes x = Games.sorted();
        CHECKS.same("24: no round", x.why(0, 7, 0), 1);
        x.begin(0);
        CHECKS.same("24: it can", x.why(0, 0, 0), 0);
        CHECKS.same("24: not its turn", x.why(1, 0, 0), 2);
        CHECKS.same("24: not its tile", x.why(0, 7, 1), 3);
        x.clock(0);
        CHECKS.same("24: not neutral", x.why(0, 0, 1), 5);
        x.tick(20);
        CHECKS.same("24: not neutral ahead of no time", x.why(0, 0, 1), 5);
        x.clock(0);
        CHECKS.same("24: no time", x.why(0, 0, 1), 6);
        x.undo();
        x.undo();
        x.clock(1);
        x.lay(0, 1, 0);
        CHECKS.same("24: it does not fit there", x.why(1, 8, 0), 4);
        CHECKS.same("24: it fits here, the clock is not neutral", x.why(1, 8, 1), 5);
        CHECKS.same("24: the other team's tile", x.why(1, 14, 1), 3);
        CHECKS.same("24: a laid tile", x.why(1, 1, 1), 3);
        x.clock(0);
        CHECKS.same("24: held by the latest one", x.why(1, 8, 1), 5);
        x.clock(0);
        CHECKS.same("24: neutral", x.why(1, 8, 1), 0);
        CHECKS.noPlace("24: why(4, 0, 0)", () -> x.why(4, 0, 0));
        CHECKS.noPlace("24: why(-1, 0, 2)", () -> x.why(-1, 0, 2));
        CHECKS.noPlace("24: why(0, 28, 2)", () -> x.why(0, 28, 2));
        CHECKS.noPlace("24: why(0, -1, 0)", () -> x.why(0, -1, 0));
        CHECKS.noArgument("24: why(0, 0, 2)", () -> x.why(0, 0, 2));
        CHECKS.noArgument("24: why(0, 0, -1)", () -> x.why(0, 0, -1));
        CHECKS.same("24: behind a round", Games.rowEnded().why(1, 2, 0), 1);
    }
}
