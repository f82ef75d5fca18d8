/** Promises 6 to 10: lay, pass, clock, tick, set. */
public final class RoundTests {
    private static final Checks CHECKS = new Checks();
    private static final String PLACE = "IndexOutOfBoundsException";
    private static final String ARGUMENT = "IllegalArgumentException";
    private static final String STATE = "IllegalStateException";

    public static void main(String[] args) {
        lay();
        layForPoints();
        layLast();
        layRefused();
        pass();
        passOfTime();
        passesEnd();
        passRefused();
        clock();
        tick();
        set();
        CHECKS.end();
    }

    private static void lay() {
        ClockDominoes x = Games.sortedRound(0);
        CHECKS.due("6: lay(0, 1, 1)", () -> x.lay(0, 1, 1), 0);
        CHECKS.same("6: it lies in the chain", x.tile(1, 3), 4);
        CHECKS.same("6: with its a to the left", x.chain(0, 1), 0);
        CHECKS.same("6: with its b to the right", x.chain(0, 2), 1);
        CHECKS.same("6: the turn", x.count(1), 1);
        CHECKS.same("6: the clock stays", x.count(2), 1);
        CHECKS.same("6: the lays", x.count(10), 1);
        CHECKS.same("6: the latest hand", x.count(16), 0);
        CHECKS.same("6: six tiles", x.hand(0, 0), 6);
        x.clock(1);
        CHECKS.due("6: lay(1, 9, 1)", () -> x.lay(1, 9, 1), 0);
        CHECKS.same("6: the fitting value is at the chain", x.chain(1, 1), 1);
        CHECKS.same("6: the right end", x.count(5), 3);
        x.clock(1);
        CHECKS.due("6: lay(2, 14, 1)", () -> x.lay(2, 14, 1), 0);
        CHECKS.same("6: turned, 3 to the left", x.chain(2, 1), 3);
        CHECKS.same("6: turned, 2 to the right", x.chain(2, 2), 2);
        CHECKS.due("6: undo()", x::undo, 5);
        CHECKS.same("6: the right end again", x.count(5), 3);
        CHECKS.same("6: 2 has its tile again", x.tile(14, 3), 2);
        layLeft();
    }

    private static void layLeft() {
        ClockDominoes x = Games.sortedRound(0);
        CHECKS.due("6: lay(0, 6, 0)", () -> x.lay(0, 6, 0), 0);
        CHECKS.same("6: the first one at the left lies alike", x.chain(0, 1), 0);
        Games.played(x, "t99;p;t99;p;c-;c-");
        CHECKS.same("6: the clock", x.count(2), 3);
        Games.played(x, "t99;p");
        CHECKS.due("6: lay(0, 2, 0)", () -> x.lay(0, 2, 0), 0);
        CHECKS.same("6: its place", x.tile(2, 4), 0);
        CHECKS.same("6: the other one's place", x.tile(6, 4), 1);
        CHECKS.same("6: 2 to the left", x.chain(0, 1), 2);
        CHECKS.same("6: 0 to the right", x.chain(0, 2), 0);
        CHECKS.same("6: it was the second lay", x.chain(0, 3), 2);
        CHECKS.same("6: the other one was the first", x.chain(1, 3), 1);
        CHECKS.same("6: the right end stays", x.count(5), 6);
    }

    private static void layForPoints() {
        ClockDominoes x = Games.sortedRound(3);
        CHECKS.due("6: a double alone counts its pips", () -> x.lay(3, 25, 0), 2);
        CHECKS.same("6: points of the team 1", x.count(8), 2);
        x.clock(1);
        CHECKS.due("6: a double at an end counts twice", () -> x.lay(0, 5, 1), 2);
        CHECKS.same("6: the open sum", x.count(6), 10);
        CHECKS.same("6: points of the team 0", x.count(7), 2);
        CHECKS.same("6: points of the team 1 stay", x.count(8), 2);
        x.clock(1);
        CHECKS.due("6: lay(1, 11, 0), no multiple", () -> x.lay(1, 11, 0), 0);
        CHECKS.same("6: the open sum 1", x.count(6), 1);
        ClockDominoes y = Games.sortedRound(0);
        CHECKS.due("6: the open sum 0 gives nothing", () -> y.lay(0, 0, 0), 0);
        CHECKS.same("6: no points", y.count(7), 0);
        ClockDominoes z = Games.sortedRound(1);
        CHECKS.due("6: (1, 4) gives a point", () -> z.lay(1, 10, 0), 1);
        CHECKS.same("6: to the team 1", z.count(8), 1);
    }

    private static void layLast() {
        ClockDominoes x = Games.rowRound();
        Games.played(x, "l01>;p;p;p;l11>;p;p;p;l12>;p;p;p;l22>;p;p;p;l23>;p;p;p");
        CHECKS.same("6: one tile is left", x.hand(0, 0), 1);
        CHECKS.due("6: the last tile brings a fifth of the others' pips", () -> x.lay(0, 18, 1), 29);
        CHECKS.same("6: behind the round", x.count(0), 2);
        CHECKS.same("6: no turn", x.count(1), -1);
        CHECKS.same("6: the points", x.count(7), 29);
        CHECKS.same("6: the chain stays", x.count(3), 7);
        CHECKS.same("6: the hands stay", x.hand(1, 0), 7);
        CHECKS.same("6: the latest hand stays", x.count(16), 0);
        CHECKS.same("6: not neutral without a round", x.count(15), 0);
        CHECKS.same("6: none passed behind the lay", x.count(12), 0);
        CHECKS.due("6: undo()", x::undo, 5);
        CHECKS.same("6: the round is on again", x.count(0), 1);
        CHECKS.same("6: the points are gone", x.count(7), 0);
    }

    private static void layRefused() {
        ClockDominoes x = Games.sortedRound(0);
        Games.unchanged(CHECKS, x, "6: lay(4, 0, 0)", () -> x.lay(4, 0, 0), PLACE);
        Games.unchanged(CHECKS, x, "6: lay(-1, 0, 0)", () -> x.lay(-1, 0, 0), PLACE);
        Games.unchanged(CHECKS, x, "6: lay(0, 28, 2)", () -> x.lay(0, 28, 2), PLACE);
        Games.unchanged(CHECKS, x, "6: lay(0, -1, 0)", () -> x.lay(0, -1, 0), PLACE);
        Games.unchanged(CHECKS, x, "6: lay(0, 0, 2)", () -> x.lay(0, 0, 2), ARGUMENT);
        Games.unchanged(CHECKS, x, "6: lay(0, 0, -1)", () -> x.lay(0, 0, -1), ARGUMENT);
        Games.unchanged(CHECKS, x, "6: lay(1, 7, 2), not its turn", () -> x.lay(1, 7, 2), ARGUMENT);
        Games.unchanged(CHECKS, x, "6: not its turn", () -> x.lay(1, 7, 0), STATE);
        Games.unchanged(CHECKS, x, "6: not its tile", () -> x.lay(0, 7, 0), STATE);
        x.lay(0, 0, 0);
        Games.unchanged(CHECKS, x, "6: it does not fit", () -> x.lay(1, 7, 0), STATE);
        x.undo();
        x.clock(0);
        Games.unchanged(CHECKS, x, "6: the clock is not neutral", () -> x.lay(0, 0, 0), STATE);
        x.clock(1);
        x.tick(99);
        Games.unchanged(CHECKS, x, "6: no time", () -> x.lay(0, 0, 0), STATE);
        ClockDominoes fresh = new ClockDominoes();
        Games.unchanged(CHECKS, fresh, "6: no round", () -> fresh.lay(0, 0, 0), STATE);
        Games.unchanged(CHECKS, fresh, "6: lay(4, 0, 5), no round", () -> fresh.lay(4, 0, 5), PLACE);
        ClockDominoes ended = Games.rowEnded();
        Games.unchanged(CHECKS, ended, "6: behind a round", () -> ended.lay(1, 3, 0), STATE);
    }

    private static void pass() {
        ClockDominoes x = Games.sortedRound(0);
        x.lay(0, 0, 0);
        CHECKS.due("7: pass(1)", () -> x.pass(1), 1);
        CHECKS.same("7: it lacks 0", x.hand(1, 3), 1);
        CHECKS.same("7: the turn", x.count(1), 2);
        CHECKS.same("7: passes so far", x.count(11), 1);
        CHECKS.same("7: its passes", x.hand(1, 5), 1);
        CHECKS.same("7: one behind the other", x.count(12), 1);
        CHECKS.due("7: pass(2)", () -> x.pass(2), 2);
        CHECKS.due("7: pass(3)", () -> x.pass(3), 3);
        x.lay(0, 5, 1);
        CHECKS.same("7: a lay breaks the row", x.count(12), 0);
        Games.played(x, "t20;p");
        CHECKS.same("7: a pass without time tells nothing", x.hand(1, 3), 1);
        CHECKS.same("7: it counts all the same", x.hand(1, 5), 2);
        CHECKS.due("7: undo()", x::undo, 5);
        CHECKS.same("7: its passes again", x.hand(1, 5), 1);
        bothEnds();
    }

    private static void bothEnds() {
        ClockDominoes x = Games.sortedRound(0);
        Games.played(x, "l01<;t99;p");
        CHECKS.due("7: pass(2) with time", () -> x.pass(2), 2);
        CHECKS.same("7: it lacks both ends", x.hand(2, 3), 3);
        x.undo();
        CHECKS.same("7: undo takes it back", x.hand(2, 3), 0);
        x.tick(19);
        CHECKS.due("7: pass(2) with one tick left", () -> x.pass(2), 2);
        CHECKS.same("7: that tells too", x.hand(2, 3), 3);
        CHECKS.due("7: pass(3)", () -> x.pass(3), 3);
        x.lay(0, 6, 0);
        CHECKS.same("7: the left end", x.count(4), 6);
        Games.played(x, "p");
        CHECKS.same("7: without time nothing", x.hand(1, 3), 0);
        Games.played(x, "t1;t99;p");
        CHECKS.same("7: what was known stays", x.hand(2, 3), 3);
    }

    private static void passOfTime() {
        ClockDominoes x = Games.sortedRound(2);
        Games.unchanged(CHECKS, x, "7: all tiles fit the empty chain", () -> x.pass(2), STATE);
        x.tick(99);
        CHECKS.due("7: without time it can", () -> x.pass(2), 1);
        CHECKS.same("7: nothing is known", x.hand(2, 3), 0);
        CHECKS.same("7: the others have their time", x.hand(3, 2), 20);
    }

    private static void passesEnd() {
        ClockDominoes x = Games.sortedRound(0);
        Games.played(x, "t20;p;t20;p;t20;p;t20");
        CHECKS.due("7: the fourth pass ends the round", () -> x.pass(3), 4);
        CHECKS.same("7: behind it", x.count(0), 2);
        CHECKS.same("7: no turn", x.count(1), -1);
        CHECKS.same("7: 68 pips to 100, the team 0 gets a fifth", x.count(7), 6);
        CHECKS.same("7: the other one nothing", x.count(8), 0);
        CHECKS.same("7: four passed", x.count(12), 4);
        x.gather();
        CHECKS.same("7: that stays", x.count(12), 4);
        otherTeam();
        alike();
    }

    private static void otherTeam() {
        ClockDominoes x = new ClockDominoes();
        Games.given(x, "1:00,01,02,03,04,05,06;0:11,12,13,14,15,16,22");
        Games.given(x, "3:23,24,25,26,33,34,35;2:36,44,45,46,55,56,66");
        x.begin(1);
        Games.played(x, "t20;p;t20;p;t20;p;t20;p");
        CHECKS.same("7: the team 1 gets a fifth of 32", x.count(8), 6);
        CHECKS.same("7: the team 0 nothing", x.count(7), 0);
    }

    private static void alike() {
        ClockDominoes x = new ClockDominoes();
        Games.given(x, "0:00,06,15,24,33,66,05;1:01,56,02,46,03,36,11");
        Games.given(x, "2:04,55,12,45,13,35,14;3:16,22,44,23,34,26,25");
        x.begin(0);
        Games.played(x, "t20;p;t20;p;t20;p;t20;p");
        CHECKS.same("7: 84 pips of the team 0", x.hand(0, 1) + x.hand(2, 1), 84);
        CHECKS.same("7: alike, no points of the team 0", x.count(7), 0);
        CHECKS.same("7: alike, no points of the team 1", x.count(8), 0);
    }

    private static void passRefused() {
        ClockDominoes x = Games.sortedRound(0);
        Games.unchanged(CHECKS, x, "7: pass(4)", () -> x.pass(4), PLACE);
        Games.unchanged(CHECKS, x, "7: pass(-1)", () -> x.pass(-1), PLACE);
        Games.unchanged(CHECKS, x, "7: not its turn", () -> x.pass(1), STATE);
        x.lay(0, 1, 0);
        Games.unchanged(CHECKS, x, "7: it has time, and a tile that fits", () -> x.pass(1), STATE);
        ClockDominoes fresh = new ClockDominoes();
        Games.unchanged(CHECKS, fresh, "7: no round", () -> fresh.pass(0), STATE);
        Games.unchanged(CHECKS, fresh, "7: pass(7), no round", () -> fresh.pass(7), PLACE);
        ClockDominoes ended = Games.rowEnded();
        Games.unchanged(CHECKS, ended, "7: behind a round", () -> ended.pass(1), STATE);
    }

    private static void clock() {
        ClockDominoes x = Games.sortedRound(2);
        CHECKS.due("8: clock(1)", () -> x.clock(1), 0);
        CHECKS.due("8: clock(0)", () -> x.clock(0), 3);
        CHECKS.due("8: clock(0) again", () -> x.clock(0), 2);
        CHECKS.same("8: how often", x.count(13), 3);
        CHECKS.same("8: not neutral at the turn", x.count(15), 0);
        CHECKS.due("8: undo()", x::undo, 5);
        CHECKS.same("8: how often again", x.count(13), 2);
        CHECKS.same("8: neutral again", x.count(15), 1);
        Games.unchanged(CHECKS, x, "8: clock(2)", () -> x.clock(2), ARGUMENT);
        Games.unchanged(CHECKS, x, "8: clock(-1)", () -> x.clock(-1), ARGUMENT);
        ClockDominoes fresh = new ClockDominoes();
        Games.unchanged(CHECKS, fresh, "8: no round", () -> fresh.clock(1), STATE);
        Games.unchanged(CHECKS, fresh, "8: clock(2), no round", () -> fresh.clock(2), ARGUMENT);
        ClockDominoes ended = Games.rowEnded();
        Games.unchanged(CHECKS, ended, "8: behind a round", () -> ended.clock(0), STATE);
    }

    private static void tick() {
        ClockDominoes x = Games.sortedRound(1);
        CHECKS.due("9: tick(1)", () -> x.tick(1), 19);
        CHECKS.due("9: tick(19)", () -> x.tick(19), 0);
        CHECKS.due("9: tick(99), not below 0", () -> x.tick(99), 0);
        CHECKS.same("9: the others keep theirs", x.hand(2, 2), 20);
        CHECKS.due("9: undo()", x::undo, 5);
        CHECKS.due("9: undo() again", x::undo, 4);
        CHECKS.same("9: the time again", x.hand(1, 2), 19);
        Games.unchanged(CHECKS, x, "9: tick(0)", () -> x.tick(0), ARGUMENT);
        Games.unchanged(CHECKS, x, "9: tick(100)", () -> x.tick(100), ARGUMENT);
        ClockDominoes fresh = new ClockDominoes();
        Games.unchanged(CHECKS, fresh, "9: no round", () -> fresh.tick(1), STATE);
        Games.unchanged(CHECKS, fresh, "9: tick(0), no round", () -> fresh.tick(0), ARGUMENT);
        ClockDominoes ended = Games.rowEnded();
        Games.unchanged(CHECKS, ended, "9: behind a round", () -> ended.tick(1), STATE);
    }

    private static void set() {
        ClockDominoes x = Games.sortedRound(0);
        CHECKS.due("10: set(60)", () -> x.set(60), 20);
        CHECKS.due("10: set(1)", () -> x.set(1), 60);
        CHECKS.same("10: the setting", x.count(17), 1);
        CHECKS.same("10: hands keep their time", x.hand(0, 2), 20);
        CHECKS.due("10: undo()", x::undo, 4);
        CHECKS.same("10: the setting again", x.count(17), 60);
        Games.unchanged(CHECKS, x, "10: set(0)", () -> x.set(0), ARGUMENT);
        Games.unchanged(CHECKS, x, "10: set(61)", () -> x.set(61), ARGUMENT);
        ClockDominoes fresh = new ClockDominoes();
        CHECKS.due("10: set(33) on a new one", () -> fresh.set(33), 20);
        CHECKS.same("10: no round, no time", fresh.hand(0, 2), 0);
        CHECKS.due("10: set(33) again is saved too", () -> fresh.set(33), 33);
        CHECKS.same("10: saved", fresh.count(18), 2);
        CHECKS.due("10: set behind a round", () -> Games.rowEnded().set(9), 20);
    }
}
