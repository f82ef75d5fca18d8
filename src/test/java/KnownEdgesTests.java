/** The sentences of "What is known", "Open hands" and of the promises 25 to 30 that name a boundary case. */
public final class KnownEdgesTests {
    private static final Checks CHECKS = new Checks();
    private static final int ALL = 399072960;

    public static void main(String[] args) {
        noTilesAreOneDeal();
        tilesInTheBoxAreInNoDeal();
        eachAsManyAsItHas();
        lookerKnowsItsOwn();
        noneToAHandThatLacks();
        allOfAHandIsSure();
        behindARoundAllStaysKnown();
        thereIsAtLeastOneDeal();
        openAtMostNineTiles();
        openNoRound();
        openOneTileIsLeft();
        openPassesCountOn();
        openIsTheBestLay();
        ifLaidIsWhatALayBrings();
        ifLaidNone();
        CHECKS.end();
    }

    private static void dealsOf(String name, ClockDominoes x, int looker, int due) {
        for (int way = 0; way <= 1; way++) {
            CHECKS.same("25: " + name + ", looker " + looker + ", way " + way, x.deals(looker, way), due);
        }
    }

    /** Without tiles in the other hands there is one deal, that of nothing. */
    private static void noTilesAreOneDeal() {
        ClockDominoes x = new ClockDominoes();
        for (int looker = 0; looker < 4; looker++) {
            dealsOf("no tiles", x, looker, 1);
            for (int hand = 0; hand < 4; hand++) {
                CHECKS.same("26: no tiles", x.having(looker, hand, 27), 0);
                CHECKS.same("27: no tiles", x.sure(looker, hand), 0);
                CHECKS.same("28: no tiles", x.likely(looker, hand, 0), 0.0);
            }
        }
        Games.given(x, "3:00,01,02,03,04,05,06");
        dealsOf("all tiles in its own hand", x, 3, 1);
        dealsOf("all tiles in one other hand", x, 0, 1);
        CHECKS.same("27: all in one other hand", x.sure(0, 3), 7);
        CHECKS.same("28: all in one other hand", x.likely(0, 3, 6), 1.0);
        CHECKS.same("27: an empty hand", x.sure(0, 1), 0);
    }

    /** "Tiles in the box are in no deal." */
    private static void tilesInTheBoxAreInNoDeal() {
        ClockDominoes x = new ClockDominoes();
        Games.given(x, "1:00;2:66;3:16,26");
        dealsOf("one, one and two", x, 0, 12);
        dealsOf("one and two", x, 1, 3);
        for (int tile = 0; tile < 28; tile++) {
            boolean dealt = tile == 0 || tile == 27 || tile == 12 || tile == 17;
            int sum = x.having(0, 1, tile) + x.having(0, 2, tile) + x.having(0, 3, tile);
            CHECKS.same("26: of all hands, " + tile, sum, dealt ? 12 : 0);
            CHECKS.same("28: at the hand 3, " + tile, x.likely(0, 3, tile), dealt ? 0.5 : 0.0);
        }
    }

    /** "Each as many as it has": in how many ways one, seven and seven, and three times seven can be chosen. */
    private static void eachAsManyAsItHas() {
        ClockDominoes x = new ClockDominoes();
        Games.given(x, "0:00");
        dealsOf("one at one hand", x, 3, 1);
        Games.given(x, "1:11,12,13,14,15,16,22");
        dealsOf("one and seven", x, 3, 8);
        dealsOf("seven", x, 0, 1);
        Games.given(x, "0:01,02,03,04,05,06");
        dealsOf("seven and seven", x, 3, 3432);
        CHECKS.same("26: half of them", x.having(3, 1, 0), 1716);
        ClockDominoes all = Games.sorted();
        for (int looker = 0; looker < 4; looker++) {
            dealsOf("three times seven", all, looker, ALL);
            for (int hand = 0; hand < 4; hand++) {
                int other = looker == 0 ? 27 : 0;
                CHECKS.same("26: a third of them", all.having(looker, hand, other), hand == looker ? 0 : ALL / 3);
            }
        }
    }

    /** "For the hand of the looker itself all, if it has the tile, otherwise 0." */
    private static void lookerKnowsItsOwn() {
        ClockDominoes x = Games.sortedRound(0);
        x.lay(0, 0, 0);
        for (int looker = 0; looker < 4; looker++) {
            for (int tile = 0; tile < 28; tile++) {
                boolean own = x.tile(tile, 3) == looker;
                int due = own ? x.deals(looker, 1) : 0;
                CHECKS.same("26: its own " + tile, x.having(looker, looker, tile), due);
                CHECKS.same("28: its own " + tile, x.likely(looker, looker, tile), own ? 1.0 : 0.0);
            }
            CHECKS.same("27: its own", x.sure(looker, looker), looker == 0 ? 6 : 7);
        }
        CHECKS.same("26: its tile in the chain", x.having(0, 0, 0), 0);
        CHECKS.same("26: a tile in the chain", x.having(1, 0, 0), 0);
    }

    /** "None to a hand that has a value which the hand is known to lack": the lowest value, the highest one. */
    private static void noneToAHandThatLacks() {
        ClockDominoes x = Games.sortedRound(0);
        Games.played(x, "l00<;p;t20;p;t20;p");
        for (int tile = 1; tile <= 6; tile++) {
            CHECKS.same("26: 1 lacks 0, " + tile, x.having(2, 1, tile), 0);
            CHECKS.same("26: 3 may have it, " + tile, x.having(2, 3, tile) > 0, true);
        }
        CHECKS.same("26: 1 may have (1, 1)", x.having(2, 1, 7) > 0, true);
        // Of 14 tiles without 0 seven are at 1; of the 13 that are left six are at 0.
        dealsOf("1 lacks 0", x, 2, 3432 * 1716);
        dealsOf("1 lacks 0, told by 1", x, 1, choose(20, 6) * choose(14, 7));
        ClockDominoes y = Games.dealt(Games.ROW_AND_REST, Games.REST);
        y.begin(3);
        y.lay(3, 27, 0);
        y.pass(0);
        for (int tile : new int[] {6, 12, 17, 21, 24, 26}) {
            CHECKS.same("26: 0 lacks 6, " + tile, y.having(1, 0, tile), 0);
        }
        CHECKS.same("26: 0 may have (5, 5)", y.having(1, 0, 25) > 0, true);
    }

    private static int choose(int from, int take) {
        long ways = 1;
        for (int each = 1; each <= take; each++) {
            ways = ways * (from - take + each) / each;
        }
        return (int) ways;
    }

    /** "Returns how many tiles it has in all these deals": none, some, all that the hand has. */
    private static void allOfAHandIsSure() {
        ClockDominoes x = Games.sortedRound(0);
        Games.played(x, "l00<;p;p;p");
        for (int looker = 1; looker < 4; looker++) {
            CHECKS.same("27: all six zeros of 0", x.sure(looker, 0), 6);
            for (int hand = 1; hand < 4; hand++) {
                CHECKS.same("27: of " + hand, x.sure(looker, hand), hand == looker ? 7 : 0);
            }
        }
        CHECKS.same("27: the looker 0 is sure of none", x.sure(0, 1) + x.sure(0, 2) + x.sure(0, 3), 0);
        CHECKS.same("27: but of its own", x.sure(0, 0), 6);
        ClockDominoes ended = Games.rowEnded();
        CHECKS.same("27: its own hand is empty", ended.sure(0, 0), 0);
        CHECKS.same("27: a hand is empty", ended.sure(1, 0), 0);
    }

    /** "Behind a round all stays known, until the tiles are gathered; then no hand is known to lack anything." */
    private static void behindARoundAllStaysKnown() {
        ClockDominoes x = Games.sortedRound(0);
        Games.played(x, "l00<;p;p;p;t20;p");
        CHECKS.same("5: behind the round", x.count(0), 2);
        CHECKS.same("22: 1, 2 and 3 lack 0", x.hand(1, 3) + x.hand(2, 3) + x.hand(3, 3), 3);
        dealsOf("behind the round", x, 1, 3432);
        CHECKS.same("27: behind the round", x.sure(1, 0), 6);
        x.gather();
        CHECKS.same("22: none lacks anything", x.hand(1, 3) + x.hand(2, 3) + x.hand(3, 3), 0);
        dealsOf("gathered", x, 1, 1);
        x.deal(0);
        dealsOf("dealt again", x, 1, ALL);
    }

    /**
     * "In a round there is at least one": that which is so. Each tile that is not seen is in each deal at one hand,
     * and each hand has in each deal as many tiles as it has.
     */
    private static void thereIsAtLeastOneDeal() {
        for (int looker = 0; looker < 4; looker++) {
            for (Way way : Way.all()) {
                sumsOf(way.name(), way.real(), looker);
            }
        }
        int sure = 0;
        for (int number = 0; number < 400; number++) {
            ClockDominoes x = Rounds.untilFew(number, 4 + number % 17);
            sure += sumsOf("deal " + number, x, number % 4) > x.hand(number % 4, 0) ? 1 : 0;
        }
        CHECKS.same("27: sure tiles of other hands were seen", sure > 30, true);
    }

    /** Tells how many tiles are sure in all hands. */
    private static int sumsOf(String name, ClockDominoes x, int looker) {
        long deals = x.deals(looker, 0);
        CHECKS.same("25: " + name + ", at least one", deals >= 1, true);
        CHECKS.same("25: " + name + ", told both ways", x.deals(looker, 1), deals);
        long[] ofHands = new long[4];
        int[] sure = new int[4];
        for (int tile = 0; tile < 28; tile++) {
            long sum = 0;
            int owner = x.tile(tile, 3);
            for (int hand = 0; hand < 4; hand++) {
                int having = x.having(looker, hand, tile);
                sum += having;
                ofHands[hand] += having;
                sure[hand] += having == deals ? 1 : 0;
                CHECKS.same("28: " + name, x.likely(looker, hand, tile), (double) having / deals);
                CHECKS.same("26: " + name + ", the deal that is so", hand != owner || having > 0, true);
            }
            CHECKS.same("26: " + name + ", at some hand", sum, owner < 4 ? deals : 0);
        }
        for (int hand = 0; hand < 4; hand++) {
            CHECKS.same("26: " + name + ", tiles of " + hand, ofHands[hand], deals * x.hand(hand, 0));
            CHECKS.same("27: " + name + ", sure at " + hand, x.sure(looker, hand), sure[hand]);
        }
        return sure[0] + sure[1] + sure[2] + sure[3];
    }

    /** "This is told only if the hands have at most 9 tiles together": ten, nine, four. */
    private static void openAtMostNineTiles() {
        int seen = 0;
        for (int number = 0; number < 120; number++) {
            ClockDominoes ten = Rounds.untilFew(number, 10);
            if (ten.count(0) == 1) {
                for (int what = 0; what <= 2; what++) {
                    CHECKS.same("30: ten tiles, open(" + what + ")", ten.open(what), -1);
                }
            }
            ClockDominoes nine = Rounds.untilFew(number, 9);
            int hand = nine.count(1);
            if (nine.count(0) == 1 && Rounds.held(nine) == 9 && nine.hand(hand, 4) > 0) {
                seen++;
                CHECKS.same("30: nine tiles, one that is laid", nine.tile(nine.open(1), 3), hand);
                CHECKS.same("30: nine tiles, it fits", nine.ifLaid(hand, nine.open(1), nine.open(2), 0) >= 0, true);
            }
        }
        CHECKS.same("30: nine tiles were seen", seen > 20, true);
    }

    /** "NONE if no round is on", though the hands have few tiles. */
    private static void openNoRound() {
        ClockDominoes few = new ClockDominoes();
        Games.given(few, "0:00;1:01;2:02;3:03");
        ClockDominoes ended = endedWithFew();
        for (int what = 0; what <= 2; what++) {
            CHECKS.same("30: ahead of a round, no tiles", new ClockDominoes().open(what), -1);
            CHECKS.same("30: ahead of a round, four tiles", few.open(what), -1);
            CHECKS.same("30: behind a round, few tiles", ended.open(what), -1);
        }
        CHECKS.same("30: behind a round", ended.count(0), 2);
        CHECKS.same("30: at most nine tiles", Rounds.held(ended) <= 9, true);
    }

    private static ClockDominoes endedWithFew() {
        for (int number = 0; number < 4096; number++) {
            ClockDominoes x = Rounds.untilFew(number, 0);
            if (x.count(0) == 2 && Rounds.held(x) <= 9) {
                return x;
            }
        }
        return new ClockDominoes();
    }

    /** With one tile left that fits, the round ends by it: the better end is taken, of two alike the left one. */
    private static void openOneTileIsLeft() {
        int seen = 0;
        for (int number = 0; number < 600; number++) {
            ClockDominoes x = Rounds.untilFew(number, 6);
            int hand = x.count(1);
            if (x.count(0) == 1 && x.hand(hand, 0) == 1 && x.hand(hand, 4) == 1) {
                seen++;
                int tile = x.hand(hand, 7);
                int left = x.ifLaid(hand, tile, 0, 0);
                int right = x.ifLaid(hand, tile, 1, 0);
                CHECKS.same("30: the last tile of deal " + number, x.open(0), Math.max(left, right));
                CHECKS.same("30: it is that", x.open(1), tile);
                CHECKS.same("30: its end", x.open(2), right > left ? 1 : 0);
            }
        }
        CHECKS.same("30: last tiles were seen", seen > 10, true);
    }

    /** "Hands that passed one behind the other ahead of it count on": up to three. */
    private static void openPassesCountOn() {
        int seen = 0;
        for (int number = 0; number < 900 && seen < 5; number++) {
            ClockDominoes x = Rounds.untilFew(number, 9);
            if (x.count(0) == 1 && x.hand(0, 4) + x.hand(1, 4) + x.hand(2, 4) + x.hand(3, 4) == 0) {
                seen++;
                for (int passed = x.count(12); passed < 4; passed++) {
                    int team = x.count(1) % 2;
                    int own = x.hand(team, 1) + x.hand(team + 2, 1);
                    int other = x.hand(1 - team, 1) + x.hand(3 - team, 1);
                    CHECKS.same("30: " + passed + " passed", x.open(0), (other - own) / 5);
                    CHECKS.same("30: no tile is laid", x.open(1), -1);
                    CHECKS.same("30: at no end", x.open(2), -1);
                    x.pass(x.count(1));
                }
                CHECKS.same("30: then the round has ended", x.count(0), 2);
                CHECKS.same("30: nothing is told then", x.open(0), -1);
            }
        }
        CHECKS.same("30: blocked rounds were seen", seen, 5);
        passesWithoutTime();
    }

    /** Three hands that could lay passed without time; the fourth one can not lay: nothing can be laid any more. */
    private static void passesWithoutTime() {
        int seen = 0;
        for (int number = 0; number < 400; number++) {
            ClockDominoes x = Rounds.untilFew(number, 9);
            boolean fits = x.count(0) == 1 && x.hand(x.count(1), 4) > 0;
            for (int each = 0; each < 3 && x.count(0) == 1; each++) {
                x.tick(99);
                x.pass(x.count(1));
            }
            if (fits && x.count(0) == 1 && x.count(12) == 3 && x.hand(x.count(1), 4) == 0) {
                seen++;
                int team = x.count(1) % 2;
                int own = x.hand(team, 1) + x.hand(team + 2, 1);
                int other = x.hand(1 - team, 1) + x.hand(3 - team, 1);
                CHECKS.same("30: three passed without time, deal " + number, x.open(0), (other - own) / 5);
                CHECKS.same("30: no tile", x.open(1), -1);
            }
        }
        CHECKS.same("30: three passes without time were seen", seen > 5, true);
    }

    /**
     * What is told is the best of all lays, each with what is told behind it; of several the one with the lowest
     * tile, then that at the left end. Who can not lay passes, who can does not.
     */
    private static void openIsTheBestLay() {
        int seen = 0;
        int alike = 0;
        for (int number = 0; number < 900; number++) {
            int tiles = 4 + number % 6;
            ClockDominoes x = Rounds.untilFew(number, tiles);
            if (x.count(0) == 1) {
                seen++;
                alike += bestLay(number, tiles);
            }
        }
        CHECKS.same("30: rounds were seen", seen > 400, true);
        CHECKS.same("30: lays that are alike were seen", alike > 20, true);
    }

    private static int bestLay(int number, int tiles) {
        ClockDominoes asked = Rounds.untilFew(number, tiles);
        int hand = asked.count(1);
        int[] best = {Integer.MIN_VALUE, -1, -1};
        int alike = 0;
        for (int lay = 0; lay < 56; lay++) {
            if (asked.ifLaid(hand, lay / 2, lay % 2, 0) >= 0) {
                ClockDominoes x = Rounds.untilFew(number, tiles);
                Rounds.makeNeutral(x);
                int gain = x.lay(hand, lay / 2, lay % 2) - (x.count(0) == 1 ? x.open(0) : 0);
                alike += gain == best[0] ? 1 : 0;
                best = gain > best[0] ? new int[] {gain, lay / 2, lay % 2} : best;
            }
        }
        if (best[1] < 0) {
            int team = hand % 2;
            ClockDominoes x = Rounds.untilFew(number, tiles);
            int before = x.count(7 + team) - x.count(8 - team);
            x.pass(hand);
            best[0] = x.count(0) == 1 ? -x.open(0) : x.count(7 + team) - x.count(8 - team) - before;
        }
        for (int what = 0; what <= 2; what++) {
            CHECKS.same("30: deal " + number + " of " + tiles + ", open(" + what + ")", asked.open(what), best[what]);
        }
        return alike > 0 ? 1 : 0;
    }

    /** "The points that its team would get; the open sum then; how many tiles of the next hand would fit then." */
    private static void ifLaidIsWhatALayBrings() {
        int seen = 0;
        for (int number = 0; number < 60; number++) {
            int tiles = 28 - number % 25;
            ClockDominoes asked = Rounds.untilFew(number, tiles);
            int hand = asked.count(1);
            for (int lay = 0; lay < 56 && hand >= 0; lay++) {
                int tile = lay / 2;
                int end = lay % 2;
                boolean can = asked.tile(tile, 3) == hand && asked.why(hand, tile, end) != 4;
                CHECKS.same("29: deal " + number + ", told at all", asked.ifLaid(hand, tile, end, 0) >= 0, can);
                if (can) {
                    seen++;
                    ClockDominoes x = Rounds.untilFew(number, tiles);
                    Rounds.makeNeutral(x);
                    CHECKS.same("29: the points", x.lay(hand, tile, end), asked.ifLaid(hand, tile, end, 0));
                    CHECKS.same("29: the open sum", x.count(6), asked.ifLaid(hand, tile, end, 1));
                    CHECKS.same("29: of the next hand", x.hand((hand + 1) % 4, 4), asked.ifLaid(hand, tile, end, 2));
                }
            }
        }
        CHECKS.same("29: lays were seen", seen > 60, true);
    }

    private static void noneOf(String name, ClockDominoes x, int hand, int tile, int end) {
        for (int what = 0; what <= 2; what++) {
            CHECKS.same("29: " + name + ", " + what, x.ifLaid(hand, tile, end, what), -1);
        }
    }

    /** "NONE if no round is on, the hand does not have the tile, or it does not fit the end." */
    private static void ifLaidNone() {
        noneOf("in the box", new ClockDominoes(), 0, 0, 0);
        noneOf("ahead of a round", Games.sorted(), 0, 0, 0);
        noneOf("behind a round", Games.rowEnded(), 3, 21, 1);
        ClockDominoes x = Games.sortedRound(0);
        noneOf("the tile of the hand before", x, 1, 6, 0);
        noneOf("the tile of the next hand", x, 3, 0, 1);
        x.lay(0, 1, 0);
        noneOf("it lies in the chain", x, 0, 1, 0);
        noneOf("it fits the right end alone", x, 1, 7, 0);
        noneOf("it fits the left end alone", x, 0, 0, 1);
        noneOf("it fits neither", x, 3, 27, 0);
        CHECKS.same("29: it fits the left end", x.ifLaid(0, 0, 0, 1), 1);
        CHECKS.same("29: it fits the right end", x.ifLaid(1, 7, 1, 1), 2);
    }
}
