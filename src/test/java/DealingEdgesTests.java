/** The sentences of "Tiles", "Hands, dealing" and of the promises 1 to 5 that name a boundary case. */
public final class DealingEdgesTests {
    private static final Checks CHECKS = new Checks();

    public static void main(String[] args) {
        fiveHundredAndTwelveCalls();
        tilesAreNumbered();
        everyDoubleIsOne();
        tileIsInOnePlace();
        nextToThreeIsZero();
        handsAreInTwoTeams();
        handHoldsAtMostSeven();
        dealtByTheRank();
        dealtToHandsThatAreNotFull();
        dealtLastTile();
        dealtNone();
        beginNeedsAllTiles();
        beginTellsDoubles();
        beginGivesTime();
        beginForgetsTheRoundBefore();
        gatherTellsHowMany();
        CHECKS.end();
    }

    /** "An object is used for at most 512 calls": the last one is answered as any other. */
    private static void fiveHundredAndTwelveCalls() {
        ClockDominoes x = new ClockDominoes();
        PlainModel plain = new PlainModel();
        x.deal(12);
        plain.deal(12);
        x.begin(0);
        plain.begin(0);
        for (int call = 3; call <= 511; call++) {
            CHECKS.same("call " + call, x.clock(call % 3 == 0 ? 0 : 1), plain.clock(call % 3 == 0 ? 0 : 1));
        }
        CHECKS.same("call 512", x.digest(), plain.digest());
    }

    /** "Numbered from 0 by rising a, and by rising b of the same a": the first and the last tile of each a. */
    private static void tilesAreNumbered() {
        ClockDominoes x = new ClockDominoes();
        int[] firsts = {0, 7, 13, 18, 22, 25, 27};
        for (int a = 0; a <= 6; a++) {
            int first = firsts[a];
            int last = a == 6 ? 27 : firsts[a + 1] - 1;
            CHECKS.same("Tiles: a of the first one of " + a, x.tile(first, 0), a);
            CHECKS.same("Tiles: b of the first one of " + a, x.tile(first, 1), a);
            CHECKS.same("Tiles: a of the last one of " + a, x.tile(last, 0), a);
            CHECKS.same("Tiles: b of the last one of " + a, x.tile(last, 1), 6);
            CHECKS.same("Tiles: the first one of " + a, x.tileOf(a, a), first);
            CHECKS.same("Tiles: the last one of " + a, x.tileOf(a, 6), last);
            CHECKS.same("Tiles: the last one of " + a + ", told the other way", x.tileOf(6, a), last);
        }
        CHECKS.same("Tiles: the fewest pips", x.tile(0, 2), 0);
        CHECKS.same("Tiles: the most pips", x.tile(27, 2), 12);
    }

    /** "It is a double if a is b": none, one after the other, all seven. */
    private static void everyDoubleIsOne() {
        ClockDominoes x = new ClockDominoes();
        int doubles = 0;
        for (int tile : new int[] {0, 7, 13, 18, 22, 25, 27}) {
            CHECKS.same("Tiles: doubles so far", x.hand(2, 6), doubles);
            x.give(2, tile);
            doubles++;
        }
        CHECKS.same("Tiles: seven doubles", x.hand(2, 6), 7);
        Games.given(x, "1:01,12,23,34,45,56,06");
        CHECKS.same("Tiles: no doubles among seven", x.hand(1, 6), 0);
    }

    /** "A tile is in the box, as at first, in a hand, or in the chain." */
    private static void tileIsInOnePlace() {
        ClockDominoes x = new ClockDominoes();
        CHECKS.same("Tiles: at first", x.tile(21, 3), 5);
        for (int hand = 0; hand < 4; hand++) {
            x.give(hand, 21);
            CHECKS.same("Tiles: in the hand " + hand, x.tile(21, 3), hand);
            CHECKS.same("Tiles: the box has one less", x.count(14), 27);
            x.undo();
        }
        ClockDominoes round = Games.sortedRound(3);
        round.lay(3, 21, 0);
        CHECKS.same("Tiles: in the chain", round.tile(21, 3), 4);
        CHECKS.same("Tiles: in no hand", round.hand(3, 0), 6);
    }

    /** "The next one to 3 is 0", for the turn, the clock, and the hand that a lay is told of. */
    private static void nextToThreeIsZero() {
        for (int hand = 0; hand < 4; hand++) {
            int next = hand == 3 ? 0 : hand + 1;
            ClockDominoes x = Games.sortedRound(hand);
            CHECKS.same("Hands: the clock at first, behind " + hand, x.count(2), next);
            x.lay(hand, x.hand(hand, 7), 0);
            CHECKS.same("Hands: the turn behind a lay of " + hand, x.count(1), next);
            ClockDominoes y = Games.sortedRound(hand);
            y.tick(20);
            y.pass(hand);
            CHECKS.same("Hands: the turn behind a pass of " + hand, y.count(1), next);
        }
        ClockDominoes x = Games.sortedRound(3);
        // (3, 6): (0, 3) and (0, 6) of the hand 0 have one of its values.
        CHECKS.same("Hands: next to 3 in ifLaid", x.ifLaid(3, 21, 0, 2), 2);
        int[] on = {1, 2, 3, 0, 1};
        for (int hand : on) {
            CHECKS.due("Hands: the clock on to " + hand, () -> x.clock(1), hand);
        }
        int[] back = {0, 3, 2, 1, 0, 3};
        for (int hand : back) {
            CHECKS.due("Hands: the clock back to " + hand, () -> x.clock(0), hand);
        }
    }

    /** "The hands 0 and 2 are the team 0, the hands 1 and 3 the team 1." */
    private static void handsAreInTwoTeams() {
        int[] tiles = {5, 10, 14, 24};
        int[] points = {1, 1, 1, 2};
        for (int hand = 0; hand < 4; hand++) {
            ClockDominoes x = Games.sortedRound(hand);
            x.lay(hand, tiles[hand], 1);
            CHECKS.same("Hands: points of the team of " + hand, x.count(7 + hand % 2), points[hand]);
            CHECKS.same("Hands: points of the other team", x.count(8 - hand % 2), 0);
        }
    }

    /** "A hand holds at most 7 tiles": the seventh comes to it, the eighth by no call. */
    private static void handHoldsAtMostSeven() {
        for (int hand = 0; hand < 4; hand++) {
            ClockDominoes x = new ClockDominoes();
            int each = hand;
            for (int tile = 0; tile < 7; tile++) {
                int given = tile;
                CHECKS.due("2: give to " + hand, () -> x.give(each, given), tile + 1);
            }
            Games.unchanged(CHECKS, x, "2: an eighth to " + hand, () -> x.give(each, 7), Calls.STATE);
            CHECKS.same("15: an eighth to " + hand, Games.given(x, hand + ":11"), 0);
            CHECKS.due("3: all to the others than " + hand, () -> x.deal(0), 21);
            CHECKS.same("3: still seven at " + hand, x.hand(hand, 0), 7);
            CHECKS.same("3: nothing else came to " + hand, x.hand(hand, 1), 21);
        }
    }

    /** The hand 0 has the tiles 0 to 5, so the first one that is dealt is its other one. */
    private static int firstDealt(int number) {
        ClockDominoes x = new ClockDominoes();
        Games.given(x, "0:00,01,02,03,04,05");
        CHECKS.due("3: deal(" + number + ") beside six", () -> x.deal(number), 22);
        for (int tile = 6; tile < 28; tile++) {
            if (x.tile(tile, 3) == 0) {
                return tile;
            }
        }
        return -1;
    }

    /** "x becomes (73 times x, and 41) modulo 4096; ... that with the rank x modulo how many there are". */
    private static void dealtByTheRank() {
        // Number, x, x modulo 22; the rank 0 is the tile 6.
        int[][] due = {
            {0, 41, 19}, {55, 4056, 8}, {56, 33, 11}, {4094, 3991, 9}, {4095, 4064, 16},
            {3871, 0, 0}, {280, 1, 1}, {3366, 4095, 3}
        };
        for (int[] each : due) {
            CHECKS.same("3: " + each[0] + " becomes " + each[1], firstDealt(each[0]), 6 + each[2]);
        }
    }

    /** "As long as the hand has fewer than 7 tiles": for a hand that is full, x does not go on. */
    private static void dealtToHandsThatAreNotFull() {
        ClockDominoes x = new ClockDominoes();
        Games.given(x, "0:00,01,02,03,04,05,06;1:11,12,13,14,15,16");
        CHECKS.due("3: deal(0) beside a full hand", () -> x.deal(0), 15);
        // The ranks 41 modulo 15 of 13 to 27; then 3034 modulo 14 of those without 24.
        CHECKS.same("3: the first one to the hand 1", x.tile(24, 3), 1);
        CHECKS.same("3: the second one to the hand 2", x.tile(23, 3), 2);
    }

    /** With one tile in the box each number gives it to the hand that is not full. */
    private static void dealtLastTile() {
        for (int hand = 0; hand < 4; hand++) {
            for (int number : new int[] {0, 1, 56, 4095}) {
                ClockDominoes x = allBut(7 * hand + 3);
                CHECKS.due("3: the last tile, deal(" + number + ")", () -> x.deal(number), 1);
                CHECKS.same("3: the last tile is at " + hand, x.tile(7 * hand + 3, 3), hand);
                CHECKS.same("3: the box is empty", x.count(14), 0);
            }
        }
    }

    /** Each tile but one is at the hand of the deal by rising values. */
    private static ClockDominoes allBut(int missing) {
        ClockDominoes x = new ClockDominoes();
        for (int tile = 0; tile < 28; tile++) {
            if (tile != missing) {
                x.give(tile / 7, tile);
            }
        }
        return x;
    }

    /** All tiles are dealt: none is dealt any more, and that is undoable too. */
    private static void dealtNone() {
        ClockDominoes x = new ClockDominoes();
        CHECKS.due("3: all", () -> x.deal(4095), 28);
        CHECKS.due("3: none", () -> x.deal(4095), 0);
        CHECKS.same("3: none, saved", x.count(18), 2);
        CHECKS.due("3: undo() of none", x::undo, 1);
        CHECKS.same("3: all are dealt still", x.count(14), 0);
    }

    /** "When all hands have 7 tiles, a round can be begun": not if one tile lacks, whosever it is. */
    private static void beginNeedsAllTiles() {
        ClockDominoes none = new ClockDominoes();
        Games.unchanged(CHECKS, none, "4: no tiles", () -> none.begin(0), Calls.STATE);
        for (int hand = 0; hand < 4; hand++) {
            for (int place = 0; place < 7; place += 6) {
                int each = hand;
                int missing = 7 * hand + place;
                ClockDominoes x = allBut(missing);
                Games.unchanged(CHECKS, x, "4: without " + missing, () -> x.begin(each), Calls.STATE);
                Games.unchanged(CHECKS, x, "4: another one without " + missing, () -> x.begin(3 - each), Calls.STATE);
                x.give(hand, missing);
                CHECKS.same("4: not begun so far", x.count(9), 0);
                x.begin(hand);
                CHECKS.same("4: begun with all", x.count(9), 1);
            }
        }
        ClockDominoes ended = Games.rowEnded();
        ended.gather();
        Games.unchanged(CHECKS, ended, "4: gathered", () -> ended.begin(0), Calls.STATE);
    }

    /** "Returns how many of its tiles are doubles": from none to all seven. */
    private static void beginTellsDoubles() {
        ClockDominoes x = new ClockDominoes();
        Games.given(x, "2:00,11,22,33,44,55,66");
        x.deal(31);
        CHECKS.due("4: seven doubles", () -> x.begin(2), 7);
        x.undo();
        for (int hand = 0; hand < 4; hand += 3) {
            int each = hand;
            CHECKS.due("4: none at " + hand, () -> x.begin(each), 0);
            x.undo();
        }
    }

    /** "Each hand has as much time then as setting 0 tells": as at first, the least, the most. */
    private static void beginGivesTime() {
        ClockDominoes x = Games.sorted();
        int[] settings = {20, 1, 60};
        for (int setting : settings) {
            x.set(setting);
            for (int hand = 0; hand < 4; hand++) {
                CHECKS.same("22: no time ahead of the first round", x.hand(hand, 2), 0);
            }
            x.begin(0);
            for (int hand = 0; hand < 4; hand++) {
                CHECKS.same("4: the time of " + hand, x.hand(hand, 2), setting);
            }
            x.undo();
        }
        CHECKS.same("10: at first", new ClockDominoes().count(17), 20);
    }

    /** "Lacks nothing by what is known, and has not passed", though it was so in the round before. */
    private static void beginForgetsTheRoundBefore() {
        ClockDominoes x = Games.sortedRound(0);
        Games.played(x, "l00<;p;p;p;t20;p");
        CHECKS.same("5: ended by passes", x.count(12), 4);
        x.gather();
        CHECKS.same("23: the passes in a row stay", x.count(12), 4);
        CHECKS.same("22: the passes of 1 stay", x.hand(1, 5), 1);
        x.deal(0);
        x.begin(2);
        CHECKS.same("4: none passed in a row", x.count(12), 0);
        CHECKS.same("4: none laid in this round", x.count(16), -1);
        for (int hand = 0; hand < 4; hand++) {
            CHECKS.same("4: it lacks nothing", x.hand(hand, 3), 0);
            CHECKS.same("4: it has not passed", x.hand(hand, 5), 0);
            CHECKS.same("4: it has time", x.hand(hand, 2), 20);
        }
        CHECKS.same("4: rounds so far", x.count(9), 2);
        CHECKS.same("11: passes so far", x.count(11), 4);
    }

    /** "Returns how many tiles come into the box by that": none, one, 27, all. */
    private static void gatherTellsHowMany() {
        ClockDominoes x = new ClockDominoes();
        CHECKS.due("5: an empty table", x::gather, 0);
        CHECKS.same("5: it is saved too", x.count(18), 1);
        x.give(3, 27);
        CHECKS.due("5: one tile", x::gather, 1);
        CHECKS.due("5: none again", x::gather, 0);
        CHECKS.due("5: 27 tiles", () -> allBut(0).gather(), 27);
        CHECKS.due("5: all tiles, ahead of a round", () -> Games.sorted().gather(), 28);
        CHECKS.due("5: the hands and the chain, behind a round", () -> Games.rowEnded().gather(), 28);
        ClockDominoes round = Games.sortedRound(0);
        Games.unchanged(CHECKS, round, "5: the round has begun", round::gather, Calls.STATE);
        round.lay(0, 0, 0);
        Games.unchanged(CHECKS, round, "5: a tile lies", round::gather, Calls.STATE);
    }
}
