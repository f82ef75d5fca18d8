/** Promises 1 to 5: a new object, give, deal, begin, gather. */
public final class DealingTests {
    private static final Checks CHECKS = new Checks();
    private static final String PLACE = "IndexOutOfBoundsException";
    private static final String ARGUMENT = "IllegalArgumentException";
    private static final String STATE = "IllegalStateException";

    public static void main(String[] args) {
        newObject();
        give();
        giveRefused();
        deal();
        dealRefused();
        begin();
        beginRefused();
        gather();
        CHECKS.end();
    }

    private static void newObject() {
        ClockDominoes x = new ClockDominoes();
        int[] counts = {0, -1, -1, 0, -1, -1, 0, 0, 0, 0, 0, 0, 0, 0, 28, 0, -1, 20, 0};
        for (int what = 0; what < counts.length; what++) {
            CHECKS.same("1: new, count(" + what + ")", x.count(what), counts[what]);
        }
        int[] ofHand = {0, 0, 0, 0, 0, 0, 0, -1, 1, 0};
        for (int hand = 0; hand < 4; hand++) {
            for (int what = 0; what < ofHand.length; what++) {
                CHECKS.same("1: new, hand(" + hand + ", " + what + ")", x.hand(hand, what), ofHand[what]);
            }
            CHECKS.same("1: new, deals(" + hand + ", 0)", x.deals(hand, 0), 1);
            CHECKS.same("1: new, deals(" + hand + ", 1)", x.deals(hand, 1), 1);
        }
        for (int tile = 0; tile < 28; tile++) {
            CHECKS.same("1: new, tile(" + tile + ", 3)", x.tile(tile, 3), 5);
            CHECKS.same("1: new, tile(" + tile + ", 4)", x.tile(tile, 4), -1);
            CHECKS.same("1: new, tile(" + tile + ", 5)", x.tile(tile, 5), -1);
            CHECKS.same("1: new, tile(" + tile + ", 6)", x.tile(tile, 6), 1);
        }
        CHECKS.same("1: new, clearBuffer()", x.clearBuffer(), 0);
        CHECKS.noState("1: new, goBack()", x::goBack);
        CHECKS.noState("1: new, undo()", x::undo);
        CHECKS.same("1: two new ones are alike", x.digest(), new ClockDominoes().digest());
    }

    private static void give() {
        ClockDominoes x = new ClockDominoes();
        CHECKS.due("2: give(0, 27)", () -> x.give(0, 27), 1);
        CHECKS.due("2: give(3, 0)", () -> x.give(3, 0), 1);
        CHECKS.due("2: give(0, 5)", () -> x.give(0, 5), 2);
        CHECKS.same("2: where 27 is", x.tile(27, 3), 0);
        CHECKS.same("2: where 0 is", x.tile(0, 3), 3);
        CHECKS.same("2: the box", x.count(14), 25);
        CHECKS.same("2: saved", x.count(18), 3);
        CHECKS.due("2: undo()", x::undo, 2);
        CHECKS.same("2: where 5 is again", x.tile(5, 3), 5);
        for (int tile = 6; tile < 12; tile++) {
            int each = tile;
            CHECKS.due("2: give(0, " + tile + ")", () -> x.give(0, each), tile - 4);
        }
        CHECKS.same("2: seven tiles", x.hand(0, 0), 7);
    }

    private static void giveRefused() {
        ClockDominoes x = new ClockDominoes();
        for (int tile = 6; tile < 13; tile++) {
            x.give(0, tile);
        }
        Games.unchanged(CHECKS, x, "2: give(4, 0)", () -> x.give(4, 0), PLACE);
        Games.unchanged(CHECKS, x, "2: give(-1, 0)", () -> x.give(-1, 0), PLACE);
        Games.unchanged(CHECKS, x, "2: give(1, 28)", () -> x.give(1, 28), PLACE);
        Games.unchanged(CHECKS, x, "2: give(1, -1)", () -> x.give(1, -1), PLACE);
        Games.unchanged(CHECKS, x, "2: give(2147483647, 6)", () -> x.give(Integer.MAX_VALUE, 6), PLACE);
        Games.unchanged(CHECKS, x, "2: give(0, 0), an eighth tile", () -> x.give(0, 0), STATE);
        Games.unchanged(CHECKS, x, "2: give(1, 6), not in the box", () -> x.give(1, 6), STATE);
        ClockDominoes round = Games.sortedRound(0);
        Games.unchanged(CHECKS, round, "2: give in a round", () -> round.give(0, 0), STATE);
        Games.unchanged(CHECKS, round, "2: give(0, 28) in a round", () -> round.give(0, 28), PLACE);
        ClockDominoes ended = Games.rowEnded();
        Games.unchanged(CHECKS, ended, "2: give behind a round", () -> ended.give(0, 0), STATE);
    }

    private static void deal() {
        ClockDominoes x = new ClockDominoes();
        CHECKS.due("3: deal(0)", () -> x.deal(0), 28);
        // x: 41, 3034, 339, 212, ...; 41 modulo 28 is the rank 13; 3034 modulo 27 is 10; 339 modulo 26 is 1.
        CHECKS.same("3: first tile of the hand 0", x.tile(13, 3), 0);
        CHECKS.same("3: second tile of the hand 0", x.tile(10, 3), 0);
        CHECKS.same("3: third tile of the hand 0", x.tile(1, 3), 0);
        for (int hand = 0; hand < 4; hand++) {
            CHECKS.same("3: tiles of the hand " + hand, x.hand(hand, 0), 7);
        }
        CHECKS.same("3: the box", x.count(14), 0);
        CHECKS.due("3: deal again", () -> x.deal(4095), 0);
        CHECKS.same("3: saved", x.count(18), 2);
        x.undo();
        CHECKS.due("3: undo()", x::undo, 0);
        CHECKS.same("3: the box again", x.count(14), 28);
        dealtByRank();
        ClockDominoes y = new ClockDominoes();
        y.give(2, 3);
        y.give(2, 4);
        CHECKS.due("3: deal behind two gifts", () -> y.deal(4095), 26);
        CHECKS.same("3: the gift stays", y.tile(3, 3), 2);
    }

    private static void dealtByRank() {
        for (int number = 0; number < 4096; number += 91) {
            ClockDominoes x = new ClockDominoes();
            PlainModel plain = new PlainModel();
            x.give(1, 20);
            plain.give(1, 20);
            int asked = number;
            CHECKS.due("3: deal(" + number + ")", () -> x.deal(asked), plain.deal(number));
            for (int tile = 0; tile < 28; tile++) {
                CHECKS.same("3: deal(" + number + "), where " + tile + " is", x.tile(tile, 3), plain.tile(tile, 3));
            }
        }
    }

    private static void dealRefused() {
        ClockDominoes x = Games.sortedRound(0);
        Games.unchanged(CHECKS, x, "3: deal(-1)", () -> x.deal(-1), ARGUMENT);
        Games.unchanged(CHECKS, x, "3: deal(4096)", () -> x.deal(4096), ARGUMENT);
        Games.unchanged(CHECKS, x, "3: deal in a round", () -> x.deal(0), STATE);
        ClockDominoes ended = Games.rowEnded();
        Games.unchanged(CHECKS, ended, "3: deal behind a round", () -> ended.deal(0), STATE);
    }

    private static void begin() {
        ClockDominoes x = Games.sorted();
        x.set(7);
        CHECKS.due("4: begin(3)", () -> x.begin(3), 3);
        int[] counts = {1, 3, 0, 0, -1, -1, 0, 0, 0, 1, 0, 0, 0, 0, 0, 1, -1, 7, 4};
        for (int what = 0; what < counts.length; what++) {
            CHECKS.same("4: begun, count(" + what + ")", x.count(what), counts[what]);
        }
        for (int hand = 0; hand < 4; hand++) {
            CHECKS.same("4: the time of " + hand, x.hand(hand, 2), 7);
            CHECKS.same("4: the lack of " + hand, x.hand(hand, 3), 0);
            CHECKS.same("4: the passes of " + hand, x.hand(hand, 5), 0);
        }
        CHECKS.due("4: undo()", x::undo, 3);
        CHECKS.same("4: ahead again", x.count(0), 0);
        CHECKS.same("4: no time again", x.hand(0, 2), 0);
        CHECKS.same("4: no clock again", x.count(2), -1);
        CHECKS.due("4: begin(1)", () -> Games.sorted().begin(1), 2);
        secondRound();
    }

    /** What is told of the latest round stays when the tiles are gathered, and is new in the next one. */
    private static void secondRound() {
        ClockDominoes x = Games.rowEnded();
        x.gather();
        CHECKS.same("4: the times stay", x.hand(0, 2), 20);
        CHECKS.same("4: no time stays none", x.hand(1, 2), 0);
        CHECKS.same("4: the passes stay", x.hand(2, 5), 6);
        CHECKS.same("4: the clock stays", x.count(2), 1);
        x.deal(5);
        x.begin(2);
        CHECKS.same("4: the second round", x.count(9), 2);
        CHECKS.same("4: the clock is at the next hand", x.count(2), 3);
        CHECKS.same("4: the time is new", x.hand(1, 2), 20);
        CHECKS.same("4: the passes are new", x.hand(2, 5), 0);
        CHECKS.same("4: none passed", x.count(12), 0);
        CHECKS.same("4: points stay", x.count(7), 29);
        CHECKS.same("4: none laid", x.count(16), -1);
    }

    private static void beginRefused() {
        ClockDominoes x = Games.sorted();
        Games.unchanged(CHECKS, x, "4: begin(4)", () -> x.begin(4), PLACE);
        Games.unchanged(CHECKS, x, "4: begin(-1)", () -> x.begin(-1), PLACE);
        x.undo();
        Games.unchanged(CHECKS, x, "4: begin without all tiles", () -> x.begin(0), STATE);
        Games.unchanged(CHECKS, x, "4: begin(4) without all tiles", () -> x.begin(4), PLACE);
        ClockDominoes six = Games.sorted();
        six.undo();
        Games.given(six, "2:23,24,25,26,33,34,35;3:36,44,45,46,55,56");
        Games.unchanged(CHECKS, six, "4: begin with one tile in the box", () -> six.begin(0), STATE);
        ClockDominoes round = Games.sortedRound(0);
        Games.unchanged(CHECKS, round, "4: begin in a round", () -> round.begin(0), STATE);
        ClockDominoes ended = Games.rowEnded();
        Games.unchanged(CHECKS, ended, "4: begin behind a round", () -> ended.begin(0), STATE);
    }

    private static void gather() {
        ClockDominoes x = new ClockDominoes();
        CHECKS.due("5: gather() of nothing", x::gather, 0);
        CHECKS.same("5: it is saved too", x.count(18), 1);
        x.give(1, 1);
        x.give(2, 2);
        CHECKS.due("5: gather() of two", x::gather, 2);
        CHECKS.same("5: the box", x.count(14), 28);
        ClockDominoes ended = Games.rowEnded();
        CHECKS.same("5: 2 lacks nothing by what is known", ended.hand(2, 3), 0);
        CHECKS.due("5: gather() behind a round", ended::gather, 28);
        int[] counts = {0, -1, 1, 0, -1, -1, 0, 29, 0, 1, 7, 18, 0, 0, 28, 0, -1, 20, 6};
        for (int what = 0; what < counts.length; what++) {
            CHECKS.same("5: gathered, count(" + what + ")", ended.count(what), counts[what]);
        }
        CHECKS.due("5: undo()", ended::undo, 5);
        CHECKS.same("5: the chain again", ended.count(3), 7);
        CHECKS.same("5: behind the round again", ended.count(0), 2);
        ClockDominoes round = Games.sortedRound(0);
        Games.unchanged(CHECKS, round, "5: gather in a round", round::gather, STATE);
        forgotten();
    }

    private static void forgotten() {
        ClockDominoes x = Games.sortedRound(0);
        Games.played(x, "l00<;p;p;p;t99;p;t99;p;t99;p;t99;p");
        CHECKS.same("5: behind the round", x.count(0), 2);
        CHECKS.same("5: what is known stays", x.hand(1, 3), 1);
        x.gather();
        for (int hand = 0; hand < 4; hand++) {
            CHECKS.same("5: " + hand + " is known to lack nothing", x.hand(hand, 3), 0);
        }
    }
}
