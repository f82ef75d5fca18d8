/** Promises 29 to 32: ifLaid, open, meanPips, digest. */
public final class WouldBeTests {
    private static final Checks CHECKS = new Checks();

    public static void main(String[] args) {
        ifLaid();
        ifLaidLast();
        ifLaidNone();
        ifLaidRefused();
        openNone();
        openRounds();
        openBlocked();
        meanPips();
        digest();
        CHECKS.end();
    }

    private static void ifLaidOf(String name, ClockDominoes x, int[] lay, int points, int sum, int fits) {
        String call = "29: " + name;
        long before = x.digest();
        CHECKS.due(call + ", points", () -> x.ifLaid(lay[0], lay[1], lay[2], 0), points);
        CHECKS.due(call + ", the open sum", () -> x.ifLaid(lay[0], lay[1], lay[2], 1), sum);
        CHECKS.due(call + ", tiles of the next hand", () -> x.ifLaid(lay[0], lay[1], lay[2], 2), fits);
        CHECKS.same(call + ", nothing is changed", x.digest(), before);
    }

    private static void ifLaid() {
        ClockDominoes x = Games.sortedRound(0);
        ifLaidOf("a first double", x, new int[] {3, 25, 0}, 2, 10, 1);
        ifLaidOf("a first tile at the right", x, new int[] {0, 5, 1}, 1, 5, 1);
        ifLaidOf("a first tile without points", x, new int[] {0, 0, 0}, 0, 0, 0);
        ifLaidOf("not its turn", x, new int[] {1, 10, 1}, 1, 5, 2);
        x.clock(0);
        x.tick(99);
        ifLaidOf("not neutral, no time", x, new int[] {0, 5, 0}, 1, 5, 1);
        x.undo();
        x.undo();
        x.lay(0, 5, 0);
        ifLaidOf("at the right of (0, 5)", x, new int[] {1, 11, 1}, 0, 1, 0);
        ifLaidOf("the double 0 at the left", x, new int[] {2, 20, 1}, 0, 3, 1);
        ifLaidOf("the double 5 at the right", x, new int[] {3, 25, 1}, 2, 10, 6);
        ifLaidOf("(0, 6) at the left", x, new int[] {0, 6, 0}, 0, 11, 2);
    }

    private static void ifLaidLast() {
        ClockDominoes x = Games.rowRound();
        Games.played(x, "l01>;p;p;p;l11>;p;p;p;l12>;p;p;p;l22>;p;p;p;l23>");
        ifLaidOf("the last tile, not its turn", x, new int[] {0, 18, 1}, 29, 6, 6);
        Games.played(x, "p;p;p");
        ifLaidOf("the last tile", x, new int[] {0, 18, 1}, 29, 6, 6);
        CHECKS.same("29: and so it is", x.lay(0, 18, 1), 29);
        CHECKS.same("29: the sum too", x.count(6), 6);
    }

    private static void ifLaidNone() {
        ClockDominoes ahead = Games.sorted();
        ifLaidOf("ahead of a round", ahead, new int[] {0, 0, 0}, -1, -1, -1);
        ClockDominoes x = Games.sortedRound(0);
        ifLaidOf("another one's tile", x, new int[] {0, 7, 0}, -1, -1, -1);
        x.lay(0, 1, 0);
        ifLaidOf("a laid tile", x, new int[] {0, 1, 0}, -1, -1, -1);
        ifLaidOf("it does not fit the left end", x, new int[] {1, 8, 0}, -1, -1, -1);
        ifLaidOf("it fits the right end", x, new int[] {1, 8, 1}, 0, 2, 4);
        ClockDominoes ended = Games.rowEnded();
        ifLaidOf("behind a round", ended, new int[] {1, 2, 0}, -1, -1, -1);
    }

    private static void ifLaidRefused() {
        ClockDominoes x = new ClockDominoes();
        CHECKS.noPlace("29: ifLaid(4, 0, 0, 0)", () -> x.ifLaid(4, 0, 0, 0));
        CHECKS.noPlace("29: ifLaid(-1, 0, 2, 0)", () -> x.ifLaid(-1, 0, 2, 0));
        CHECKS.noPlace("29: ifLaid(0, 28, 0, 3)", () -> x.ifLaid(0, 28, 0, 3));
        CHECKS.noPlace("29: ifLaid(0, -1, 0, 0)", () -> x.ifLaid(0, -1, 0, 0));
        CHECKS.noArgument("29: ifLaid(0, 0, 2, 0)", () -> x.ifLaid(0, 0, 2, 0));
        CHECKS.noArgument("29: ifLaid(0, 0, -1, 0)", () -> x.ifLaid(0, 0, -1, 0));
        CHECKS.noArgument("29: ifLaid(0, 0, 0, 3)", () -> x.ifLaid(0, 0, 0, 3));
        CHECKS.noArgument("29: ifLaid(0, 0, 1, -1)", () -> x.ifLaid(0, 0, 1, -1));
    }

    private static void openOf(String name, ClockDominoes x, int gain, int tile, int end) {
        CHECKS.due("30: " + name + ", open(0)", () -> x.open(0), gain);
        CHECKS.due("30: " + name + ", open(1)", () -> x.open(1), tile);
        CHECKS.due("30: " + name + ", open(2)", () -> x.open(2), end);
    }

    private static void openNone() {
        ClockDominoes x = new ClockDominoes();
        openOf("no round", x, -1, -1, -1);
        CHECKS.noArgument("30: open(3)", () -> x.open(3));
        CHECKS.noArgument("30: open(-1)", () -> x.open(-1));
        openOf("28 tiles", Games.sortedRound(0), -1, -1, -1);
        openOf("behind a round", Games.rowEnded(), -1, -1, -1);
    }

    /** Who follows what is told gets what is told, and the plain model tells the same. */
    private static void openRounds() {
        int rounds = 0;
        int ten = 0;
        for (int number = 0; number < 1200; number += 3) {
            ClockDominoes x = Rounds.untilFew(number, 10);
            if (x.count(0) == 1 && Rounds.held(x) == 10) {
                ten++;
                openOf("ten tiles", x, -1, -1, -1);
            }
            ClockDominoes y = Rounds.untilFew(number, 9);
            if (y.count(0) == 1) {
                rounds++;
                follow(number, y);
            }
        }
        CHECKS.same("30: rounds were followed", rounds > 50, true);
        CHECKS.same("30: rounds of ten tiles were seen", ten > 50, true);
    }

    private static void follow(int number, ClockDominoes x) {
        int team = x.count(1) % 2;
        int before = x.count(7 + team) - x.count(8 - team);
        int told = x.open(0);
        for (int step = 0; step < 60 && x.count(0) == 1; step++) {
            int rest = before + told - x.count(7 + team) + x.count(8 - team);
            int sign = x.count(1) % 2 == team ? 1 : -1;
            CHECKS.same("30: what is left of deal " + number, x.open(0), sign * rest);
            int tile = x.open(1);
            Rounds.makeNeutral(x);
            if (tile == -1) {
                CHECKS.same("30: no end without a tile", x.open(2), -1);
                x.pass(x.count(1));
            } else {
                x.lay(x.count(1), tile, x.open(2));
            }
        }
        CHECKS.same("30: deal " + number, x.count(7 + team) - x.count(8 - team), before + told);
    }

    /** Passes ahead count on, and time does not matter. */
    private static void openBlocked() {
        int blocked = 0;
        for (int number = 0; number < 4096 && blocked < 12; number++) {
            ClockDominoes x = Rounds.untilFew(number, 9);
            if (x.count(0) == 1 && fitting(x) == 0) {
                blocked++;
                int team = x.count(1) % 2;
                int own = x.hand(team, 1) + x.hand(team + 2, 1);
                int other = x.hand(1 - team, 1) + x.hand(3 - team, 1);
                openOf("none can lay", x, (other - own) / 5, -1, -1);
                Games.played(x, "p;p;p");
                openOf("three passed, none can lay", x, (own - other) / 5, -1, -1);
            }
        }
        CHECKS.same("30: blocked rounds were seen", blocked > 3, true);
        int seen = 0;
        for (int number = 0; number < 400; number++) {
            seen += withoutTime(number);
        }
        CHECKS.same("30: rounds without time were seen", seen > 20, true);
    }

    private static int fitting(ClockDominoes x) {
        return x.hand(0, 4) + x.hand(1, 4) + x.hand(2, 4) + x.hand(3, 4);
    }

    private static int withoutTime(int number) {
        ClockDominoes x = Rounds.untilFew(number, 9);
        if (x.count(0) != 1 || x.hand(x.count(1), 4) == 0) {
            return 0;
        }
        int gain = x.open(0);
        int tile = x.open(1);
        int end = x.open(2);
        x.tick(60);
        x.clock(1);
        openOf("without time, deal " + number, x, gain, tile, end);
        CHECKS.same("30: a tile can be laid", tile >= 0 && end >= 0, true);
        return 1;
    }

    private static void meanPips() {
        ClockDominoes x = new ClockDominoes();
        CHECKS.same("31: without any", x.meanPips(), 0.0f);
        x.give(3, 0);
        CHECKS.same("31: no pips", x.meanPips(), 0.0f);
        x.give(1, 27);
        CHECKS.same("31: 12 by 2", x.meanPips(), 6.0f);
        x.give(1, 1);
        CHECKS.same("31: 13 by 3", x.meanPips(), 13.0f / 3.0f);
        CHECKS.same("31: all", Games.sorted().meanPips(), 6.0f);
        CHECKS.same("31: not the chain", Games.rowEnded().meanPips(), 7.0f);
        CHECKS.same("31: 168 by 27", meanBehind(Games.sortedRound(0)), 168.0f / 27.0f);
    }

    private static float meanBehind(ClockDominoes x) {
        x.lay(0, 0, 0);
        return x.meanPips();
    }

    private static void digest() {
        ClockDominoes x = new ClockDominoes();
        PlainModel plain = new PlainModel();
        CHECKS.same("32: new", x.digest(), plain.digest());
        x.append(112);
        plain.append(112);
        CHECKS.same("32: a character", x.digest(), plain.digest());
        x.keep();
        plain.keep();
        CHECKS.same("32: a snapshot", x.digest(), plain.digest());
        x.deal(100);
        plain.deal(100);
        CHECKS.same("32: dealt", x.digest(), plain.digest());
        x.begin(1);
        plain.begin(1);
        CHECKS.same("32: begun", x.digest(), plain.digest());
        CHECKS.same("32: it changes nothing", x.digest(), x.digest());
        shares();
    }

    /** Shares of many kinds, so that the bits are those of the library. */
    private static void shares() {
        for (int given = 0; given < 7; given++) {
            ClockDominoes x = new ClockDominoes();
            PlainModel plain = new PlainModel();
            x.give(3, 6);
            plain.give(3, 6);
            for (int tile = 10; tile < 10 + given; tile++) {
                x.give(tile % 2, tile);
                plain.give(tile % 2, tile);
            }
            CHECKS.same("32: shares of " + given, x.digest(), plain.digest());
        }
    }
}
