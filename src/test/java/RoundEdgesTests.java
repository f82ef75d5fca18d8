/** The sentences of "The chain, laying", "Points" and of the promises 6 to 10 that name a boundary case. */
public final class RoundEdgesTests {
    private static final Checks CHECKS = new Checks();
    private static final String ALIKE_ONE = "0:00,06,15,24,33,66,05;1:01,56,02,46,03,36,11";
    private static final String ALIKE_TWO = "2:04,55,12,45,13,35,14;3:16,22,44,23,34,26,25";
    private static final String NONE_HAS_TIME = "t99;p;t99;p;t99;p;t99;p";

    public static void main(String[] args) {
        allTilesFitAnEmptyChain();
        firstTileLiesWithItsAToTheLeft();
        oneTileHasBothEnds();
        laidWithTheValueThatFits();
        clockIsNeutral();
        clockIsNeutralInANewRound();
        firstReasonNotToLay();
        firstReasonNotToPass();
        knownIfTimeIsAboveZero();
        lacksBothEnds();
        timeIsNotBelowZero();
        openSums();
        openSumAboveZeroAndAMultiple();
        lastTileBringsAFifth();
        lastTileBringsBoth();
        lastTileBringsLittle();
        fourPassesEnd();
        fifthOfTheDifference();
        handsAndChainStay();
        clockGoesRound();
        settingIsOneToSixty();
        CHECKS.end();
    }

    /** "All tiles fit both ends of an empty chain." */
    private static void allTilesFitAnEmptyChain() {
        ClockDominoes x = Games.sortedRound(2);
        CHECKS.same("The chain: no left end", x.count(4), -1);
        CHECKS.same("The chain: no right end", x.count(5), -1);
        CHECKS.same("The chain: no open sum", x.count(6), 0);
        for (int tile = 0; tile < 28; tile++) {
            CHECKS.same("The chain: " + tile + " fits", x.tile(tile, 6), 1);
            boolean own = tile >= 14 && tile <= 20;
            CHECKS.same("The chain: " + tile + " at the left", x.why(2, tile, 0), own ? 0 : 3);
            CHECKS.same("The chain: " + tile + " at the right", x.why(2, tile, 1), own ? 0 : 3);
        }
        for (int hand = 0; hand < 4; hand++) {
            CHECKS.same("The chain: all of " + hand + " fit", x.hand(hand, 4), 7);
        }
    }

    /** "The first tile lies with its a to the left", at whichever end it is laid. */
    private static void firstTileLiesWithItsAToTheLeft() {
        for (int end = 0; end <= 1; end++) {
            ClockDominoes x = Games.sortedRound(0);
            x.lay(0, 6, end);
            int[] due = {6, 0, 6, 1};
            for (int what = 0; what <= 3; what++) {
                CHECKS.same("The chain: the first tile at " + end + ", " + what, x.chain(0, what), due[what]);
            }
            CHECKS.same("The chain: the left end", x.count(4), 0);
            CHECKS.same("The chain: the right end", x.count(5), 6);
        }
    }

    /** With one tile the left end and the right end are its values; a double has it at both. */
    private static void oneTileHasBothEnds() {
        ClockDominoes x = Games.sortedRound(2);
        x.lay(2, 18, 1);
        CHECKS.same("The chain: the double's left end", x.count(4), 3);
        CHECKS.same("The chain: the double's right end", x.count(5), 3);
        CHECKS.same("The chain: (3, 6) at its left", x.ifLaid(3, 21, 0, 1), 12);
        CHECKS.same("The chain: (3, 6) at its right", x.ifLaid(3, 21, 1, 1), 12);
        CHECKS.same("The chain: (4, 4) at neither", x.ifLaid(3, 22, 0, 1) + x.ifLaid(3, 22, 1, 1), -2);
        CHECKS.same("The chain: not so many places", x.chain(1, 0), -1);
    }

    private static void laidAt(int tile, int end, int left, int right) {
        ClockDominoes x = Games.dealt("0:33,00,01,02,04,05,06;1:03,36,11,12,13,14,15",
            "2:16,22,23,24,25,26,34;3:35,44,45,46,55,56,66");
        x.begin(0);
        Games.played(x, "l33>;c+");
        x.lay(1, tile, end);
        int place = end == 0 ? 0 : 1;
        CHECKS.same("6: " + tile + " at " + end + ", its place", x.tile(tile, 4), place);
        CHECKS.same("6: " + tile + " at " + end + ", to the left", x.chain(place, 1), left);
        CHECKS.same("6: " + tile + " at " + end + ", to the right", x.chain(place, 2), right);
        CHECKS.same("6: " + tile + " at " + end + ", the other tile", x.tile(18, 4), 1 - place);
    }

    /** "Lies with the value that fits at the chain": a or b, at the left or at the right. */
    private static void laidWithTheValueThatFits() {
        laidAt(3, 0, 0, 3);
        laidAt(3, 1, 3, 0);
        laidAt(21, 0, 6, 3);
        laidAt(21, 1, 3, 6);
    }

    private static void neutralAt(String name, ClockDominoes x, int... due) {
        for (int step = 0; step < 4; step++) {
            int holder = x.count(2);
            CHECKS.same("The chain: " + name + ", held by " + holder, x.count(15), due[holder]);
            x.clock(1);
        }
    }

    /** "Neither the one whose turn it is nor the one that laid the latest tile of this round." */
    private static void clockIsNeutral() {
        ClockDominoes x = Games.sortedRound(0);
        neutralAt("none laid, the turn of 0", x, 0, 1, 1, 1);
        x.lay(0, 0, 0);
        neutralAt("0 laid, the turn of 1", x, 0, 0, 1, 1);
        x.pass(1);
        neutralAt("0 laid, the turn of 2", x, 0, 1, 0, 1);
        x.pass(2);
        neutralAt("0 laid, the turn of 3", x, 0, 1, 1, 0);
        x.pass(3);
        neutralAt("0 laid, its turn again", x, 0, 1, 1, 1);
        CHECKS.same("23: not neutral ahead of a round", Games.sorted().count(15), 0);
        CHECKS.same("23: not neutral behind a round", Games.rowEnded().count(15), 0);
    }

    /** The latest tile of the round before does not count. */
    private static void clockIsNeutralInANewRound() {
        ClockDominoes x = Games.rowEnded();
        CHECKS.same("23: 0 laid the latest one", x.count(16), 0);
        x.gather();
        CHECKS.same("23: ahead of a round none", x.count(16), -1);
        x.deal(9);
        x.begin(3);
        CHECKS.same("4: held by 0", x.count(2), 0);
        CHECKS.same("The chain: neutral at 0", x.count(15), 1);
        neutralAt("the second round, the turn of 3", x, 1, 1, 1, 0);
    }

    /** Behind (0, 1) of the hand 0: 1 has the turn, the clock, and no time. */
    private static ClockDominoes allReasons() {
        ClockDominoes x = Games.sortedRound(0);
        x.lay(0, 1, 0);
        x.tick(20);
        return x;
    }

    /** "For the first of these reasons that is so": all behind it are so too. */
    private static void firstReasonNotToLay() {
        ClockDominoes x = allReasons();
        CHECKS.same("24: not its turn, not its tile", x.why(2, 21, 0), 2);
        CHECKS.same("24: not its turn, its tile", x.why(0, 0, 0), 2);
        CHECKS.same("24: not its tile, it does not fit", x.why(1, 21, 0), 3);
        CHECKS.same("24: not its tile, it fits", x.why(1, 0, 0), 3);
        CHECKS.same("24: it lies in the chain", x.why(1, 1, 1), 3);
        CHECKS.same("24: it fits no end", x.why(1, 13, 1), 4);
        CHECKS.same("24: it fits the other end alone", x.why(1, 7, 0), 4);
        CHECKS.same("24: not neutral, no time", x.why(1, 7, 1), 5);
        x.clock(0);
        CHECKS.same("24: held by the one that laid, no time", x.why(1, 7, 1), 5);
        x.clock(0);
        CHECKS.same("24: neutral, no time", x.why(1, 7, 1), 6);
        Games.unchanged(CHECKS, x, "6: no time", () -> x.lay(1, 7, 1), Calls.STATE);
        ClockDominoes y = Games.sortedRound(0);
        Games.played(y, "l01<;t19;c+");
        CHECKS.same("24: one tick left is time", y.why(1, 7, 1), 0);
        CHECKS.due("6: with one tick left", () -> y.lay(1, 7, 1), 0);
        ClockDominoes ahead = Games.sorted();
        CHECKS.same("24: ahead of a round", ahead.why(1, 21, 0), 1);
        ClockDominoes behind = allReasons();
        Games.played(behind, "p;t99;p;t99;p;t99;p");
        CHECKS.same("24: behind a round", behind.why(1, 21, 0), 1);
    }

    /** "A hand can not pass for the first of these reasons that is so." */
    private static void firstReasonNotToPass() {
        ClockDominoes x = allReasons();
        CHECKS.same("22: not its turn, one fits", x.hand(0, 8), 2);
        CHECKS.same("22: not its turn, none fits", x.hand(2, 8), 2);
        CHECKS.same("22: no time, some fit", x.hand(1, 8), 0);
        x.undo();
        x.tick(19);
        CHECKS.same("22: one tick left, some fit", x.hand(1, 8), 3);
        Games.unchanged(CHECKS, x, "7: one tick left", () -> x.pass(1), Calls.STATE);
        x.tick(1);
        CHECKS.due("7: no tick left", () -> x.pass(1), 1);
        CHECKS.same("22: with time, none fits", x.hand(2, 8), 0);
        x.tick(99);
        CHECKS.same("22: no time, none fits", x.hand(2, 8), 0);
        for (int hand = 0; hand < 4; hand++) {
            CHECKS.same("22: ahead of a round, " + hand, Games.sorted().hand(hand, 8), 1);
            CHECKS.same("22: behind a round, " + hand, Games.rowEnded().hand(hand, 8), 1);
        }
    }

    /** "If a hand passes while its time is above 0": 1 is, 0 is not. */
    private static void knownIfTimeIsAboveZero() {
        for (int left = 0; left <= 1; left++) {
            ClockDominoes x = Games.sortedRound(0);
            x.lay(0, 1, 0);
            x.tick(99);
            x.pass(1);
            x.tick(20 - left);
            x.pass(2);
            CHECKS.same("7: passed with the time " + left, x.hand(2, 3), left == 1 ? 3 : 0);
            CHECKS.same("7: it counts, with the time " + left, x.hand(2, 5), 1);
            CHECKS.same("7: 1 passed without time", x.hand(1, 3), 0);
        }
    }

    /** "It lacks both ends, as they are": the lowest value, the highest one, both; what was known stays. */
    private static void lacksBothEnds() {
        ClockDominoes x = Games.dealt(Games.ROW_AND_REST, Games.REST);
        x.begin(3);
        x.lay(3, 27, 0);
        CHECKS.due("7: 0 has no 6", () -> x.pass(0), 1);
        CHECKS.same("22: the bit of 6", x.hand(0, 3), 64);
        Games.played(x, "l06<");
        CHECKS.same("22: the ends are 0 and 6", x.count(4) + 10 * x.count(5), 60);
        // 2 has (1, 6), so it passes without time.
        Games.played(x, "t99;p");
        CHECKS.same("22: 2 had no time", x.hand(2, 3), 0);
        ClockDominoes y = Games.dealt("0:06,00,01,02,03,04,05;1:16,26,36,46,56,66,11",
            "2:12,13,14,15,22,23,24;3:25,33,34,35,44,45,55");
        y.begin(0);
        Games.played(y, "l06<;t99;p;p;p");
        CHECKS.same("22: the bits of 0 and 6", y.hand(2, 3), 65);
        CHECKS.same("22: the same of 3", y.hand(3, 3), 65);
        Games.played(y, "l01<;t99;p;t99;p");
        CHECKS.same("22: what was known stays", y.hand(2, 3), 65);
        CHECKS.due("7: 3 has no 1", () -> y.pass(3), 3);
        CHECKS.same("22: the bits of 0, 1 and 6", y.hand(3, 3), 67);
    }

    /** "The time becomes so much less, but not below 0": of the hand whose turn it is alone. */
    private static void timeIsNotBelowZero() {
        int[][] due = {{1, 19}, {19, 1}, {20, 0}, {21, 0}, {98, 0}, {99, 0}};
        for (int[] each : due) {
            ClockDominoes x = Games.sortedRound(3);
            CHECKS.due("9: tick(" + each[0] + ") of 20", () -> x.tick(each[0]), each[1]);
            CHECKS.same("9: the time of 3", x.hand(3, 2), each[1]);
            for (int hand = 0; hand < 3; hand++) {
                CHECKS.same("9: the time of " + hand, x.hand(hand, 2), 20);
            }
        }
        ClockDominoes x = Games.sorted();
        x.set(60);
        x.begin(1);
        CHECKS.due("9: tick(59) of 60", () -> x.tick(59), 1);
        CHECKS.due("9: tick(1) of 1", () -> x.tick(1), 0);
        CHECKS.due("9: tick(1) of 0", () -> x.tick(1), 0);
        CHECKS.same("9: that is saved too", x.count(18), 6);
        ClockDominoes y = Games.sorted();
        y.set(60);
        y.begin(1);
        CHECKS.due("9: tick(99) of 60", () -> y.tick(99), 0);
    }

    /** "0 without tiles in the chain; with one tile its pips; otherwise both ends, a double counted twice." */
    private static void openSums() {
        CHECKS.same("Points: a new object", new ClockDominoes().count(6), 0);
        ClockDominoes x = Games.sortedRound(3);
        CHECKS.same("Points: no tile", x.count(6), 0);
        x.lay(3, 27, 0);
        CHECKS.same("Points: (6, 6) alone, its pips once", x.count(6), 12);
        Games.played(x, "t99;p;t99;p;t99;p;l46>");
        CHECKS.same("Points: (6, 6) at the left, 4 at the right", x.count(6), 16);
        Games.played(x, "p;p;p;l44>");
        CHECKS.same("Points: a double at each end", x.count(6), 20);
        Games.played(x, "p;p;p;l45>");
        CHECKS.same("Points: a double inside does not count", x.count(6), 17);
        ClockDominoes y = Games.sortedRound(0);
        y.lay(0, 0, 0);
        CHECKS.same("Points: (0, 0) alone", y.count(6), 0);
        Games.played(y, "p;p;p;l06<");
        CHECKS.same("Points: 6 at the left, (0, 0) at the right", y.count(6), 6);
    }

    private static void firstLay(int hand, int tile, int gain) {
        ClockDominoes x = Games.sortedRound(hand);
        CHECKS.due("6: " + tile + " alone", () -> x.lay(hand, tile, 0), gain);
        CHECKS.same("6: the points of " + tile, x.count(7 + hand % 2), gain);
    }

    /** "If the open sum is above 0 and a multiple of 5, the team gets a fifth of it": 0, 4, 5, 6, 9 to 12, 15, 20. */
    private static void openSumAboveZeroAndAMultiple() {
        firstLay(0, 0, 0);
        firstLay(0, 4, 0);
        firstLay(0, 5, 1);
        firstLay(0, 6, 0);
        firstLay(3, 21, 0);
        firstLay(3, 24, 2);
        firstLay(3, 25, 2);
        firstLay(3, 26, 0);
        firstLay(3, 27, 0);
        ClockDominoes x = Games.sortedRound(3);
        Games.played(x, "l55<;t99;p;t99;p;t99;p;l56>;p;p;p;l46>;p;p;p");
        CHECKS.same("6: two points so far", x.count(8), 2);
        CHECKS.due("6: the open sum 15", () -> x.lay(3, 23, 1), 3);
        CHECKS.same("6: five points", x.count(8), 5);
        ClockDominoes y = Games.sortedRound(3);
        Games.played(y, "l66<;t99;p;t99;p;t99;p;l46>;p;p;p");
        CHECKS.due("6: the open sum 20", () -> y.lay(3, 22, 1), 4);
        CHECKS.same("6: the other team none", y.count(7), 0);
    }

    /** The hand 0 lays all but the last one of these tiles at the right end; the others have no time. */
    private static ClockDominoes allButTheLast(String tiles) {
        ClockDominoes x = new ClockDominoes();
        Games.given(x, "0:" + tiles);
        x.deal(0);
        x.begin(0);
        String[] figures = tiles.split(",");
        for (int each = 0; each < 6; each++) {
            CHECKS.same("6: so far", Games.played(x, "l" + figures[each] + ">;t99;p;t99;p;t99;p"), 7);
        }
        return x;
    }

    private static void lastOf(String tiles, int tile, int gain) {
        ClockDominoes x = allButTheLast(tiles);
        int before = x.count(7);
        CHECKS.same("6: one tile is left", x.hand(0, 0), 1);
        CHECKS.same("29: the last one of " + tiles, x.ifLaid(0, tile, 1, 0), gain);
        CHECKS.due("6: the last one of " + tiles, () -> x.lay(0, tile, 1), gain);
        CHECKS.same("6: points of " + tiles, x.count(7) - before, gain);
        CHECKS.same("6: behind the round", x.count(0), 2);
        CHECKS.same("6: no tile is left", x.hand(0, 0), 0);
        CHECKS.same("22: no pips", x.hand(0, 1), 0);
        CHECKS.same("22: no lowest one", x.hand(0, 7), -1);
        CHECKS.same("22: no chain of none", x.hand(0, 9), 0);
    }

    /** "Its team gets, besides, a fifth of the pips of all other hands together", rounded down. */
    private static void lastTileBringsAFifth() {
        // 144 pips of the others; the open sum is 6.
        lastOf("00,01,11,12,22,23,36", 21, 28);
        // 147 pips of the others; the open sum is 6.
        lastOf("00,01,11,12,22,23,33", 18, 29);
        // 149 pips of the others; the open sum is 3, and a tile lies with its a to the right.
        lastOf("00,04,24,12,11,01,03", 3, 29);
    }

    /** The points of the open sum come besides: 145 pips of the others, the open sum 5. */
    private static void lastTileBringsBoth() {
        lastOf("00,01,11,12,22,23,35", 20, 30);
    }

    private static void littleOf(int number, int first, int pips, int sum, int gain) {
        ClockDominoes x = Rounds.heaviest(number, first);
        int hand = x.count(16);
        int tile = x.chain(0, 3) == x.count(3) ? x.chain(0, 0) : x.chain(x.count(3) - 1, 0);
        int end = x.tile(tile, 4) == 0 ? 0 : 1;
        String name = "6: deal " + number + ", " + pips + " pips of the others";
        CHECKS.same(name, x.hand(0, 1) + x.hand(1, 1) + x.hand(2, 1) + x.hand(3, 1), pips);
        CHECKS.same(name + ", the open sum", x.count(6), sum);
        CHECKS.same(name + ", ended by an empty hand", x.hand(hand, 0) + 10 * x.count(0), 20);
        int points = x.count(7 + hand % 2);
        x.undo();
        CHECKS.due(name + ", the last lay", () -> x.lay(hand, tile, end), gain);
        CHECKS.same(name + ", the points of the team", x.count(7 + hand % 2), points);
    }

    /** Fewer than five pips of the others are no point, five are one; a point of the open sum comes besides. */
    private static void lastTileBringsLittle() {
        littleOf(1000, 1, 3, 3, 0);
        littleOf(1027, 3, 4, 2, 0);
        littleOf(45, 2, 5, 1, 1);
        littleOf(1077, 3, 3, 5, 1);
        littleOf(57, 2, 5, 5, 2);
    }

    /** "If all four hands passed one behind the other": three and a lay do not end the round. */
    private static void fourPassesEnd() {
        ClockDominoes x = Games.sortedRound(0);
        Games.played(x, "l00<;p;p;p");
        CHECKS.same("7: three passed", x.count(12), 3);
        CHECKS.same("7: the round is on", x.count(0), 1);
        x.lay(0, 6, 1);
        CHECKS.same("7: none behind a lay", x.count(12), 0);
        int[] due = {1, 2, 3};
        for (int each : due) {
            x.tick(99);
            CHECKS.due("7: pass " + each + " behind it", () -> x.pass(each), each);
            CHECKS.same("7: still on", x.count(0), 1);
        }
        x.tick(99);
        CHECKS.due("7: the fourth one", () -> x.pass(0), 4);
        CHECKS.same("7: behind the round", x.count(0), 2);
        CHECKS.same("7: no turn", x.count(1), -1);
        CHECKS.same("23: seven passes in all", x.count(11), 7);
        x.undo();
        CHECKS.same("7: undone, the turn of 0", x.count(1), 0);
        CHECKS.same("7: undone, three passed", x.count(12), 3);
        ClockDominoes y = Games.sortedRound(2);
        CHECKS.same("7: none laid at all", Games.played(y, NONE_HAS_TIME), 8);
        CHECKS.same("7: that ends it too", y.count(0), 2);
    }

    private static void blocked(String name, ClockDominoes x, int hand, String lay, int zero, int one) {
        x.begin(hand);
        Games.played(x, lay + NONE_HAS_TIME);
        CHECKS.same("7: " + name + ", behind the round", x.count(0), 2);
        CHECKS.same("7: " + name + ", points of the team 0", x.count(7), zero);
        CHECKS.same("7: " + name + ", points of the team 1", x.count(8), one);
    }

    private static ClockDominoes alike() {
        return Games.dealt(ALIKE_ONE, ALIKE_TWO);
    }

    /** "A fifth of the difference, neither if they have alike": from 0 to 10, for both teams. */
    private static void fifthOfTheDifference() {
        for (int hand = 0; hand < 4; hand++) {
            blocked("84 to 84, begun by " + hand, alike(), hand, "", 0, 0);
        }
        blocked("80 to 84", alike(), 2, "l04<;", 0, 0);
        blocked("84 to 80", alike(), 3, "l22<;", 0, 0);
        blocked("79 to 84, and the open sum 5", alike(), 2, "l14<;", 1 + 1, 0);
        blocked("84 to 79, and the open sum 5", alike(), 3, "l23<;", 0, 1 + 1);
        blocked("78 to 84", alike(), 0, "l06<;", 1, 0);
        blocked("84 to 77", alike(), 3, "l16>;", 0, 1);
        blocked("84 to 82", alike(), 1, "l11>;", 0, 0);
        blocked("75 to 84", alike(), 2, "l45<;", 1, 0);
        blocked("84 to 75", alike(), 1, "l36<;", 0, 1);
        blocked("74 to 84, and the open sum 10", alike(), 2, "l55<;", 2 + 2, 0);
        blocked("84 to 74, and the open sum 10", alike(), 1, "l46<;", 0, 2 + 2);
        blocked("68 to 100", Games.sorted(), 0, "", 6, 0);
    }

    /** "When a round has ended, the hands and the chain stay, till the tiles are gathered." */
    private static void handsAndChainStay() {
        ClockDominoes x = Games.rowEnded();
        CHECKS.same("Points: seven in the chain", x.count(3), 7);
        CHECKS.same("Points: the ends stay", x.count(4) * 10 + x.count(5), 3);
        CHECKS.same("Points: the open sum stays", x.count(6), 6);
        CHECKS.same("Points: none at 0, seven at 3", x.hand(0, 0) * 10 + x.hand(3, 0), 7);
        CHECKS.same("Points: none in the box", x.count(14), 0);
        for (String part : new String[] {"p", "t1", "c+", "l36>"}) {
            CHECKS.same("Points: no " + part + " behind the round", Games.played(x, part), 0);
        }
        x.gather();
        CHECKS.same("Points: then all are in the box", x.count(14), 28);
        CHECKS.same("Points: none in the chain", x.count(3), 0);
        CHECKS.same("Points: no ends", x.count(4) + x.count(5), -2);
        CHECKS.same("Points: ahead of a round", x.count(0), 0);
        CHECKS.same("Points: no tile is where it was", x.chain(0, 0), -1);
        CHECKS.same("Points: the points stay", x.count(7), 29);
    }

    /** "Returns the hand that holds it then", four times on and four times back, from each hand. */
    private static void clockGoesRound() {
        for (int hand = 0; hand < 4; hand++) {
            ClockDominoes x = Games.sortedRound(hand);
            int first = x.count(2);
            for (int step = 1; step <= 4; step++) {
                int due = (first + step) % 4;
                CHECKS.due("8: on " + step + " from " + first, () -> x.clock(1), due);
            }
            for (int step = 1; step <= 4; step++) {
                int due = (first + 4 - step) % 4;
                CHECKS.due("8: back " + step + " from " + first, () -> x.clock(0), due);
            }
            CHECKS.same("23: handed on so far", x.count(13), 8);
            CHECKS.same("8: the turn stays", x.count(1), hand);
        }
    }

    /** "The time of each hand, 1 to 60, at first 20"; "hands keep the time that they have". */
    private static void settingIsOneToSixty() {
        ClockDominoes x = Games.sortedRound(0);
        Games.unchanged(CHECKS, x, "10: set(0)", () -> x.set(0), Calls.ARGUMENT);
        Games.unchanged(CHECKS, x, "10: set(61)", () -> x.set(61), Calls.ARGUMENT);
        CHECKS.due("10: set(1) from the first", () -> x.set(1), 20);
        CHECKS.due("10: set(60)", () -> x.set(60), 1);
        CHECKS.due("10: set(60) again", () -> x.set(60), 60);
        CHECKS.same("10: saved each time", x.count(18), 6);
        for (int hand = 0; hand < 4; hand++) {
            CHECKS.same("10: the time of " + hand, x.hand(hand, 2), 20);
        }
    }
}
