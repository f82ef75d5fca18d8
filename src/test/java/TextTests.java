/** Promises 11 to 15: append, clearBuffer, firstError, play, giveAll. */
public final class TextTests {
    private static final Checks CHECKS = new Checks();
    private static final String ARGUMENT = "IllegalArgumentException";
    private static final String STATE = "IllegalStateException";

    public static void main(String[] args) {
        append();
        clearBuffer();
        errorsOfGames();
        errorsOfTiles();
        everyShortText();
        longTexts();
        play();
        playStops();
        playRefused();
        giveAll();
        giveAllRefused();
        CHECKS.end();
    }

    private static void append() {
        ClockDominoes x = new ClockDominoes();
        CHECKS.due("11: append(33)", () -> x.append(33), 1);
        CHECKS.due("11: append(126)", () -> x.append(126), 2);
        CHECKS.same("11: it is not undoable", x.count(18), 0);
        Games.unchanged(CHECKS, x, "11: append(32)", () -> x.append(32), ARGUMENT);
        Games.unchanged(CHECKS, x, "11: append(127)", () -> x.append(127), ARGUMENT);
        Games.unchanged(CHECKS, x, "11: append(-1)", () -> x.append(-1), ARGUMENT);
        for (int length = 3; length <= 60; length++) {
            CHECKS.due("11: append(112) to " + length, () -> x.append(112), length);
        }
        Games.unchanged(CHECKS, x, "11: a 61st character", () -> x.append(112), STATE);
        Games.unchanged(CHECKS, x, "11: append(32) to a full buffer", () -> x.append(32), ARGUMENT);
    }

    private static void clearBuffer() {
        ClockDominoes x = new ClockDominoes();
        CHECKS.due("12: clearBuffer() of nothing", x::clearBuffer, 0);
        long before = x.digest();
        Games.write(x, "p;p");
        CHECKS.due("12: clearBuffer()", x::clearBuffer, 3);
        CHECKS.due("12: clearBuffer() again", x::clearBuffer, 0);
        CHECKS.same("12: the digest as before", x.digest(), before);
        CHECKS.same("12: it is not undoable", x.count(18), 0);
        CHECKS.due("12: append(112)", () -> x.append(112), 1);
        CHECKS.due("12: firstError(0)", () -> x.firstError(0), 1);
    }

    private static void errorOf(int what, String text, int due) {
        ClockDominoes x = new ClockDominoes();
        Games.write(x, text);
        CHECKS.due("13: firstError(" + what + ") of " + text, () -> x.firstError(what), due);
        CHECKS.same("13: the buffer of " + text + " stays", x.clearBuffer(), text.length());
    }

    private static void errorsOfGames() {
        String[] right = {"", "l", "l6", "l66", "l06<", "l33>;", "p;p", "c", "c+;c-", "t", "t1", "t99;", "t10;t9;p"};
        for (String text : right) {
            errorOf(0, text, text.length());
        }
        errorOf(0, "q", 0);
        errorOf(0, ";", 0);
        errorOf(0, "P", 0);
        errorOf(0, "l7", 1);
        errorOf(0, "l<", 1);
        errorOf(0, "l07", 2);
        errorOf(0, "l10", 2);
        errorOf(0, "l65", 2);
        errorOf(0, "l66p", 3);
        errorOf(0, "l66;", 3);
        errorOf(0, "l66<p", 4);
        errorOf(0, "l66>>", 4);
        errorOf(0, "p;;", 2);
        errorOf(0, "p,p", 1);
        errorOf(0, "c<", 1);
        errorOf(0, "c+-", 2);
        errorOf(0, "t0", 1);
        errorOf(0, "t;", 1);
        errorOf(0, "t1;t01", 4);
        errorOf(0, "t100", 3);
        errorOf(0, "t5p", 2);
        errorOf(0, "t5:", 2);
        errorOf(0, "t5/", 2);
        errorOf(0, "q;7", 0);
        ClockDominoes x = new ClockDominoes();
        Games.unchanged(CHECKS, x, "13: firstError(2)", () -> x.firstError(2), ARGUMENT);
        Games.unchanged(CHECKS, x, "13: firstError(-1)", () -> x.firstError(-1), ARGUMENT);
    }

    private static void errorsOfTiles() {
        String[] right = {"", "0", "3:", "2:1", "0:00", "0:00,", "1:66;", "1:56,66;2:01,02", "0:12,12;0:12"};
        for (String text : right) {
            errorOf(1, text, text.length());
        }
        errorOf(1, "4", 0);
        errorOf(1, "/", 0);
        errorOf(1, ":", 0);
        errorOf(1, "0;", 1);
        errorOf(1, "0::", 2);
        errorOf(1, "0:7", 2);
        errorOf(1, "0:21", 3);
        errorOf(1, "0:07", 3);
        errorOf(1, "0:1,", 3);
        errorOf(1, "0:001", 4);
        errorOf(1, "0:00,;", 5);
        errorOf(1, "0:00;;", 5);
        errorOf(1, "0:00;4", 5);
        errorOf(1, "0:00,1:", 6);
        errorOf(1, "p", 0);
    }

    private static void everyShortText() {
        for (int what = 0; what <= 1; what++) {
            everyTextOf(what == 0 ? "lpct0369<>+-;" : "013467:,;", what, 5, "");
        }
        for (int code = 33; code <= 126; code++) {
            for (String start : new String[] {"", "l", "l3", "l35", "c", "t", "t4", "t44", "p;", "0", "0:", "0:4", "0:45"}) {
                alike(0, start + (char) code);
                alike(1, start + (char) code);
            }
        }
    }

    private static void everyTextOf(String signs, int what, int most, String start) {
        alike(what, start);
        ClockDominoes x = new ClockDominoes();
        Games.write(x, start);
        if (start.length() >= most || x.firstError(what) < start.length()) {
            return;
        }
        for (int place = 0; place < signs.length(); place++) {
            everyTextOf(signs, what, most, start + signs.charAt(place));
        }
    }

    private static void alike(int what, String text) {
        ClockDominoes x = new ClockDominoes();
        Games.write(x, text);
        int due = what == 0 ? PlainTexts.firstErrorOfGame(text) : PlainTexts.firstErrorOfTiles(text);
        CHECKS.due("13: firstError(" + what + ") of " + text, () -> x.firstError(what), due);
        boolean whole = what == 0 ? PlainTexts.isGame(text) : PlainTexts.isTiles(text);
        String told = Checks.told(what == 0 ? x::play : x::giveAll);
        CHECKS.same("14, 15: " + text + " is refused", told.equals("throws.IllegalArgumentException"), !whole);
    }

    private static void longTexts() {
        String game = "l00<;l66>;".repeat(6);
        errorOf(0, game, 60);
        errorOf(0, game.substring(0, 59) + "q", 59);
        String parts = "p;".repeat(29) + "pp";
        errorOf(0, parts, 59);
        errorOf(1, "0:00;".repeat(12), 60);
    }

    private static void play() {
        ClockDominoes x = Games.sortedRound(1);
        CHECKS.same("14: all parts", Games.played(x, "t3;l16<;c-;c-;p;c+;t12;c+"), 4);
        CHECKS.same("14: the tile lies", x.tile(12, 4), 0);
        CHECKS.same("14: the ticks are those of its hand", x.hand(1, 2), 17);
        CHECKS.same("14: the turn", x.count(1), 2);
        CHECKS.same("14: the clock was handed back twice", x.count(2), 0);
        CHECKS.same("14: as often", x.count(13), 2);
        CHECKS.same("14: the buffer is clear", x.clearBuffer(), 0);
        CHECKS.same("14: saved once", x.count(18), 4);
        CHECKS.due("14: undo() takes all back", x::undo, 3);
        CHECKS.same("14: the chain is empty again", x.count(3), 0);
        CHECKS.same("14: the time again", x.hand(1, 2), 20);
        CHECKS.same("14: one part", Games.played(x, "c+"), 1);
        CHECKS.same("14: the next hand", x.count(2), 3);
        CHECKS.same("14: to the right", Games.played(x, "l16>"), 1);
        CHECKS.same("14: two figures of ticks", Games.played(x, "t10;t9"), 2);
        CHECKS.same("14: one tick is left", x.hand(2, 2), 1);
        ends();
    }

    private static void ends() {
        ClockDominoes x = Games.sortedRound(0);
        CHECKS.same("14: three parts", Games.played(x, "l06<;c+;l16<"), 2);
        CHECKS.same("14: at the right end", Games.played(x, "l16>"), 1);
        CHECKS.same("14: it lies behind", x.tile(12, 4), 1);
        CHECKS.same("14: the clock on", Games.played(x, "c+"), 1);
        CHECKS.same("14: a pass without reason", Games.played(x, "t20;p;p;p;p"), 3);
        CHECKS.same("14: 0 has a tile that fits, and can not pass", x.count(1), 0);
    }

    private static void playStops() {
        ClockDominoes x = new ClockDominoes();
        for (String text : new String[] {"p", "c+", "c-", "t1", "l00<"}) {
            CHECKS.same("14: " + text + " without a round", Games.played(x, text), 0);
        }
        CHECKS.same("14: saved all the same", x.count(18), 5);
        CHECKS.same("14: the buffer is clear", x.clearBuffer(), 0);
        ClockDominoes row = Games.rowEnded();
        CHECKS.same("14: the round ended", row.count(0), 2);
        for (String text : new String[] {"p", "c+", "t1", "l00<"}) {
            CHECKS.same("14: " + text + " behind a round", Games.played(row, text), 0);
        }
        ClockDominoes y = Games.rowRound();
        CHECKS.same("14: up to the end of the round", Games.played(y, "l01>;p;p;p;l11>;p;p;p;l12>;p;p;p;l22>;p;p;p"), 16);
        CHECKS.same("14: and no more", Games.played(y, "l23>;p;p;p;l33>;c+;c+"), 5);
        CHECKS.same("14: the clock stays", y.count(13), 0);
        CHECKS.same("14: the points of all", y.count(7), 29);
    }

    private static void playRefused() {
        ClockDominoes x = Games.sortedRound(0);
        String[] wrong = {"", "l", "l0", "l00", "c", "t", "p;", "t1;", "p;q", "l10<", "t100", "0:00"};
        for (String text : wrong) {
            Games.write(x, text);
            Games.unchanged(CHECKS, x, "14: play() of " + text, x::play, ARGUMENT);
        }
    }

    private static void giveAll() {
        ClockDominoes x = new ClockDominoes();
        CHECKS.same("15: three tiles", Games.given(x, "2:00,66;0:35"), 3);
        CHECKS.same("15: where 0 is", x.tile(0, 3), 2);
        CHECKS.same("15: where 27 is", x.tile(27, 3), 2);
        CHECKS.same("15: where 20 is", x.tile(20, 3), 0);
        CHECKS.same("15: the buffer is clear", x.clearBuffer(), 0);
        CHECKS.same("15: saved once", x.count(18), 1);
        CHECKS.same("15: up to one that is given", Games.given(x, "1:01,02,35,03"), 2);
        CHECKS.same("15: no more", x.tile(3, 3), 5);
        CHECKS.due("15: undo()", x::undo, 1);
        CHECKS.same("15: they are in the box again", x.count(14), 25);
        CHECKS.same("15: none", Games.given(x, "1:66,01"), 0);
        CHECKS.same("15: saved all the same", x.count(18), 2);
        CHECKS.same("15: an eighth one not", Games.given(x, "3:01,02,03,04,05,06,11,12;1:13"), 7);
        CHECKS.same("15: and none behind it", x.tile(9, 3), 5);
        CHECKS.same("15: not in a round", Games.given(Games.sortedRound(0), "0:00"), 0);
        CHECKS.same("15: not behind a round", Games.given(Games.rowEnded(), "0:00"), 0);
    }

    private static void giveAllRefused() {
        ClockDominoes x = new ClockDominoes();
        String[] wrong = {"", "0", "0:", "0:0", "0:00,", "0:00;", "0:00;1", "0:10", "p", "4:00", "0:00,1:01"};
        for (String text : wrong) {
            Games.write(x, text);
            Games.unchanged(CHECKS, x, "15: giveAll() of " + text, x::giveAll, ARGUMENT);
        }
    }
}
