import java.util.ArrayList;
import java.util.List;

/** Promises 25 to 28: deals, having, sure, likely. */
public final class KnowledgeTests {
    private static final Checks CHECKS = new Checks();
    private static final int ALL = 399072960;

    public static void main(String[] args) {
        nothingKnown();
        aheadOfRound();
        deals();
        having();
        sure();
        likely();
        behindRound();
        refused();
        everyDeal();
        CHECKS.end();
    }

    private static void dealsOf(String name, ClockDominoes x, int looker, int due) {
        CHECKS.due("25: " + name + ", deals(" + looker + ", 0)", () -> x.deals(looker, 0), due);
        CHECKS.due("25: " + name + ", deals(" + looker + ", 1)", () -> x.deals(looker, 1), due);
    }

    private static void nothingKnown() {
        ClockDominoes x = Games.sortedRound(2);
        for (int looker = 0; looker < 4; looker++) {
            dealsOf("a new round", x, looker, ALL);
        }
        CHECKS.same("26: a third of all", x.having(0, 1, 7), ALL / 3);
        CHECKS.same("26: any other hand", x.having(0, 3, 7), ALL / 3);
        CHECKS.same("26: its own tile", x.having(0, 0, 6), ALL);
        CHECKS.same("26: not its tile", x.having(0, 0, 7), 0);
        CHECKS.same("26: its own tile is no other one's", x.having(0, 1, 6), 0);
        CHECKS.same("27: its own tiles", x.sure(0, 0), 7);
        CHECKS.same("27: no others", x.sure(0, 1), 0);
        CHECKS.same("28: a third", x.likely(0, 2, 27), 1.0 / 3.0);
        CHECKS.same("28: its own", x.likely(3, 3, 27), 1.0);
        CHECKS.same("28: never", x.likely(3, 2, 27), 0.0);
    }

    private static void aheadOfRound() {
        ClockDominoes x = new ClockDominoes();
        dealsOf("an empty table", x, 0, 1);
        CHECKS.same("26: in the box", x.having(0, 1, 0), 0);
        CHECKS.same("27: nothing", x.sure(0, 1), 0);
        CHECKS.same("28: in the box", x.likely(0, 1, 0), 0.0);
        x.give(1, 3);
        dealsOf("one tile", x, 0, 1);
        dealsOf("its own tile", x, 1, 1);
        CHECKS.same("27: the one tile is sure", x.sure(0, 1), 1);
        CHECKS.same("28: the one tile is sure", x.likely(0, 1, 3), 1.0);
        x.give(1, 4);
        x.give(2, 20);
        dealsOf("two and one", x, 0, 3);
        dealsOf("one of the others", x, 1, 1);
        dealsOf("two of the others", x, 2, 1);
        CHECKS.same("26: two of three", x.having(0, 1, 20), 2);
        CHECKS.same("26: one of three", x.having(0, 2, 20), 1);
        CHECKS.same("26: an empty hand", x.having(0, 3, 20), 0);
        CHECKS.same("28: two thirds", x.likely(0, 1, 20), 2.0 / 3.0);
    }

    /** Behind (0, 0) the hands 1, 2 and 3 are known to lack 0. */
    private static ClockDominoes noZeros() {
        ClockDominoes x = Games.sortedRound(0);
        Games.played(x, "l00<;p;p;p");
        return x;
    }

    private static void deals() {
        ClockDominoes x = noZeros();
        dealsOf("the zeros are its own", x, 0, ALL);
        dealsOf("the zeros are at 0, 14 others at two hands", x, 1, 3432);
        dealsOf("the same for 2", x, 2, 3432);
        x.lay(0, 5, 1);
        dealsOf("one zero less", x, 1, 3432);
        CHECKS.same("25: looks save nothing", x.count(18), 5);
        ClockDominoes y = Games.sortedRound(0);
        Games.played(y, "l00<;p;t20;p;t20;p");
        // 1 has 7 of the 14 tiles without 0; 0 has 6 of the 13 that are left.
        dealsOf("only 1 lacks 0", y, 0, ALL);
        dealsOf("only 1 lacks 0, told by 2", y, 2, 3432 * 1716);
    }

    private static void having() {
        ClockDominoes x = noZeros();
        CHECKS.same("26: a zero is at 0", x.having(1, 0, 5), 3432);
        CHECKS.same("26: and at no other", x.having(1, 2, 5), 0);
        CHECKS.same("26: the others are at one of two", x.having(1, 2, 14), 1716);
        CHECKS.same("26: a tile of the chain", x.having(1, 0, 0), 0);
        CHECKS.same("26: its own tile", x.having(1, 1, 7), 3432);
        CHECKS.same("26: a laid tile of its own", x.having(0, 0, 0), 0);
        CHECKS.same("26: the asked hand is full", x.having(1, 0, 27), 0);
        ClockDominoes y = Games.sortedRound(0);
        Games.played(y, "l00<;p;c+;l05>;p");
        CHECKS.same("26: not at a hand that lacks it", y.having(0, 1, 5), 0);
    }

    private static void sure() {
        ClockDominoes x = noZeros();
        CHECKS.same("27: six zeros", x.sure(1, 0), 6);
        CHECKS.same("27: none of 2", x.sure(1, 2), 0);
        CHECKS.same("27: its own", x.sure(1, 1), 7);
        CHECKS.same("27: its own, less one", x.sure(0, 0), 6);
        x.lay(0, 5, 1);
        CHECKS.same("27: five zeros", x.sure(3, 0), 5);
    }

    private static void likely() {
        ClockDominoes x = noZeros();
        CHECKS.same("28: sure", x.likely(2, 0, 6), 1.0);
        CHECKS.same("28: half", x.likely(2, 3, 7), 0.5);
        CHECKS.same("28: never", x.likely(2, 3, 6), 0.0);
        ClockDominoes y = Games.sortedRound(0);
        Games.played(y, "l00<;p;p;p;l05>");
        CHECKS.same("28: three tenths", y.likely(0, 1, 7), (double) y.having(0, 1, 7) / y.deals(0, 0));
    }

    private static void behindRound() {
        ClockDominoes x = noZeros();
        Games.played(x, "t20;p;t20;p;t20;p;t20;p");
        CHECKS.same("25: the round has ended", x.count(0), 2);
        dealsOf("behind the round all stays known", x, 1, 3432);
        x.gather();
        dealsOf("gathered", x, 1, 1);
        x.deal(1);
        dealsOf("dealt", x, 1, ALL);
        CHECKS.same("27: the row has ended, no tiles of 0", Games.rowEnded().sure(1, 0), 0);
        dealsOf("14 tiles at two hands", Games.rowEnded(), 1, 3432);
        dealsOf("21 tiles at three hands", Games.rowEnded(), 0, ALL);
    }

    private static void refused() {
        ClockDominoes x = new ClockDominoes();
        CHECKS.noPlace("25: deals(4, 0)", () -> x.deals(4, 0));
        CHECKS.noPlace("25: deals(-1, 2)", () -> x.deals(-1, 2));
        CHECKS.noArgument("25: deals(0, 2)", () -> x.deals(0, 2));
        CHECKS.noArgument("25: deals(3, -1)", () -> x.deals(3, -1));
        int[][] wrong = {{4, 0, 0}, {-1, 0, 0}, {0, 4, 0}, {0, -1, 0}, {0, 0, 28}, {0, 0, -1}, {1, 0, 28}};
        for (int[] each : wrong) {
            String arguments = "(" + each[0] + ", " + each[1] + ", " + each[2] + ")";
            CHECKS.noPlace("26: having" + arguments, () -> x.having(each[0], each[1], each[2]));
            CHECKS.noPlace("28: likely" + arguments, () -> x.likely(each[0], each[1], each[2]));
        }
        CHECKS.noPlace("27: sure(4, 0)", () -> x.sure(4, 0));
        CHECKS.noPlace("27: sure(-1, 0)", () -> x.sure(-1, 0));
        CHECKS.noPlace("27: sure(0, 4)", () -> x.sure(0, 4));
        CHECKS.noPlace("27: sure(0, -1)", () -> x.sure(0, -1));
    }

    // ---- late in a round all deals can be made, one after the other

    private static void everyDeal() {
        int seen = 0;
        for (int number = 0; number < 200; number++) {
            ClockDominoes x = Rounds.untilFew(number, 12);
            if (x.count(0) == 1) {
                seen++;
                for (int looker = 0; looker < 4; looker++) {
                    compareEvery(Rounds.untilFew(number, 12), looker);
                }
            }
        }
        CHECKS.same("25: late rounds were seen", seen > 20, true);
    }

    private static void compareEvery(ClockDominoes x, int looker) {
        List<Integer> secret = new ArrayList<>();
        int[] values = new int[28];
        for (int tile = 0; tile < 28; tile++) {
            values[tile] = 1 << x.tile(tile, 0) | 1 << x.tile(tile, 1);
            int place = x.tile(tile, 3);
            if (place < 4 && place != looker) {
                secret.add(tile);
            }
        }
        int[][] had = new int[4][28];
        int[] free = {x.hand(0, 0), x.hand(1, 0), x.hand(2, 0), x.hand(3, 0)};
        int[] lacks = {x.hand(0, 3), x.hand(1, 3), x.hand(2, 3), x.hand(3, 3)};
        free[looker] = 0;
        int all = make(values, lacks, secret, free, new ArrayList<>(), had);
        dealsOf("made", x, looker, all);
        for (int hand = 0; hand < 4; hand++) {
            int sure = 0;
            for (int tile = 0; tile < 28 && hand != looker; tile++) {
                CHECKS.same("26: made, having", x.having(looker, hand, tile), had[hand][tile]);
                CHECKS.same("28: made, likely", x.likely(looker, hand, tile), (double) had[hand][tile] / all);
                sure += had[hand][tile] == all ? 1 : 0;
            }
            CHECKS.same("27: made, sure", x.sure(looker, hand), hand == looker ? x.hand(hand, 0) : sure);
        }
    }

    private static int make(
            int[] values, int[] lacks, List<Integer> secret, int[] free, List<Integer> owners, int[][] had) {
        int from = owners.size();
        if (from == secret.size()) {
            for (int place = 0; place < from; place++) {
                had[owners.get(place)][secret.get(place)]++;
            }
            return 1;
        }
        int sum = 0;
        for (int hand = 0; hand < 4; hand++) {
            if (free[hand] > 0 && (lacks[hand] & values[secret.get(from)]) == 0) {
                free[hand]--;
                owners.add(hand);
                sum += make(values, lacks, secret, free, owners, had);
                owners.remove(from);
                free[hand]++;
            }
        }
        return sum;
    }
}
