/** The sentences of "Input text", "Undo" and of the promises 11 to 18 that name a boundary case. */
public final class TextEdgesTests {
    private static final Checks CHECKS = new Checks();
    private static final String FIGURES = "0123456";
    private static final String[][] GAME_GOES_ON = {
        {"", "lpct"}, {"l", FIGURES}, {"l0", FIGURES}, {"l1", "123456"}, {"l3", "3456"}, {"l5", "56"}, {"l6", "6"},
        {"l00", "<>"}, {"l66", "<>"}, {"l06<", ";"}, {"l06>", ";"}, {"p", ";"}, {"c", "+-"}, {"c+", ";"}, {"c-", ";"},
        {"t", "123456789"}, {"t1", "0123456789;"}, {"t9", "0123456789;"}, {"t10", ";"}, {"t99", ";"}, {"p;", "lpct"},
        {"t1;l44<;", "lpct"}, {"c+;t", "123456789"}
    };
    private static final String[][] TILES_GO_ON = {
        {"", "0123"}, {"0", ":"}, {"3", ":"}, {"0:", FIGURES}, {"0:0", FIGURES}, {"0:2", "23456"}, {"0:5", "56"},
        {"0:6", "6"}, {"0:66", ",;"}, {"0:00,", FIGURES}, {"0:00,4", "456"}, {"0:00,46", ",;"}, {"0:00;", "0123"},
        {"0:00;3", ":"}, {"0:00;3:", FIGURES}, {"0:00;3:66", ",;"}
    };

    public static void main(String[] args) {
        codesAre33To126();
        bufferHasAtMostSixty();
        clearTellsTheLength();
        emptyBufferHasNoError();
        errorAtEachPlace();
        whatATextGoesOnWith();
        wholeTextsAlone();
        sixtyCharactersArePlayed();
        ticksAreOneTo99();
        clockGoesRoundInATextToo();
        endsOfALayInAText();
        playUpToTheFirstThatThrows();
        sixtyCharactersAreGiven();
        giveUpToTheFirstThatThrows();
        snapshotIsTakenAndStays();
        atMostSixStates();
        eachSavesOnce();
        savedAlsoIfNothingChanges();
        notSaved();
        undoRestoresAllButTheBuffer();
        CHECKS.end();
    }

    /** "The character code, 33 to 126." */
    private static void codesAre33To126() {
        ClockDominoes x = new ClockDominoes();
        for (int code = 28; code <= 131; code++) {
            int asked = code;
            if (code < 33 || code > 126) {
                CHECKS.noArgument("11: append(" + code + ")", () -> x.append(asked));
            } else {
                CHECKS.due("11: append(" + code + ")", () -> x.append(asked), 1);
                CHECKS.due("12: clearBuffer()", x::clearBuffer, 1);
            }
        }
    }

    /** "The buffer has at most 60 characters": the sixtieth comes in, the next one does not, until it is clear. */
    private static void bufferHasAtMostSixty() {
        ClockDominoes x = new ClockDominoes();
        for (int length = 1; length <= 60; length++) {
            CHECKS.due("11: character " + length, () -> x.append(112), length);
        }
        Games.unchanged(CHECKS, x, "11: one more", () -> x.append(112), Calls.STATE);
        Games.unchanged(CHECKS, x, "11: one more, no character", () -> x.append(32), Calls.ARGUMENT);
        Games.unchanged(CHECKS, x, "11: one more, no character either", () -> x.append(127), Calls.ARGUMENT);
        CHECKS.due("12: sixty", x::clearBuffer, 60);
        CHECKS.due("11: the first one again", () -> x.append(126), 1);
    }

    /** "Returns the length that it had": 0, 1, 59, 60. */
    private static void clearTellsTheLength() {
        ClockDominoes x = new ClockDominoes();
        for (int length : new int[] {0, 1, 59, 60, 0}) {
            Games.write(x, "!".repeat(length));
            CHECKS.due("12: the length " + length, x::clearBuffer, length);
        }
        CHECKS.same("12: nothing is saved by it", x.count(18), 0);
    }

    private static int error(int what, String text) {
        ClockDominoes x = new ClockDominoes();
        Games.write(x, text);
        return x.firstError(what);
    }

    /** "The length of the buffer if there is none", also for the empty buffer, which is no whole text. */
    private static void emptyBufferHasNoError() {
        ClockDominoes x = new ClockDominoes();
        for (int what = 0; what <= 1; what++) {
            CHECKS.same("13: the empty buffer", x.firstError(what), 0);
        }
        Games.unchanged(CHECKS, x, "14: the empty buffer", x::play, Calls.ARGUMENT);
        Games.unchanged(CHECKS, x, "15: the empty buffer", x::giveAll, Calls.ARGUMENT);
        Games.unchanged(CHECKS, x, "13: firstError(-1)", () -> x.firstError(-1), Calls.ARGUMENT);
        Games.unchanged(CHECKS, x, "13: firstError(2)", () -> x.firstError(2), Calls.ARGUMENT);
    }

    /** "The index of the first character that is a syntax error": each place of a full buffer, and none. */
    private static void errorAtEachPlace() {
        String game = "l00<;t99;c+;p;".repeat(4) + "l66>";
        String tiles = "3:66,00,12;".repeat(5) + "0:00,";
        for (int place = 0; place < 60; place++) {
            CHECKS.same("13: a game, wrong at " + place, error(0, spoiled(game, place)), place);
            CHECKS.same("13: tiles, wrong at " + place, error(1, spoiled(tiles, place)), place);
        }
        CHECKS.same("13: a full game", error(0, game), 60);
        CHECKS.same("13: full tiles", error(1, tiles), 60);
        CHECKS.same("13: the first one of many", error(0, "p;x;x;x"), 2);
        CHECKS.same("13: a game is no tiles", error(1, game), 0);
        CHECKS.same("13: tiles are no game", error(0, tiles), 0);
    }

    private static String spoiled(String text, int place) {
        return text.substring(0, place) + "~" + text.substring(place + 1);
    }

    private static void goesOnWith(int what, String start, String right) {
        for (int code = 33; code <= 126; code++) {
            String text = start + (char) code;
            int due = right.indexOf(code) >= 0 ? text.length() : start.length();
            CHECKS.same("13: firstError(" + what + ") of " + text, error(what, text), due);
        }
    }

    /** "A character is a syntax error, if no such text begins with the characters before it and this character." */
    private static void whatATextGoesOnWith() {
        for (String[] each : GAME_GOES_ON) {
            goesOnWith(0, each[0], each[1]);
        }
        for (String[] each : TILES_GO_ON) {
            goesOnWith(1, each[0], each[1]);
        }
    }

    private static void whole(int what, String text, boolean due) {
        ClockDominoes x = new ClockDominoes();
        Games.write(x, text);
        long before = x.digest();
        String told = Checks.told(what == 0 ? x::play : x::giveAll);
        CHECKS.same("14, 15: " + text + " is whole", !told.equals("throws." + Calls.ARGUMENT), due);
        CHECKS.same("14, 15: " + text + " is refused and stays", x.digest() == before, !due);
    }

    /** "If the buffer is not a complete game as a text": each step of a text that grows. */
    private static void wholeTextsAlone() {
        String game = "l06<;p;c-;t99;t1";
        String ends = "l06< l06<;p l06<;p;c- l06<;p;c-;t9 l06<;p;c-;t99 l06<;p;c-;t99;t1";
        String tiles = "0:00;3:66,12";
        String tilesEnd = "0:00 0:00;3:66 0:00;3:66,12";
        for (int length = 0; length <= game.length(); length++) {
            String text = game.substring(0, length);
            whole(0, text, !text.isEmpty() && (" " + ends + " ").contains(" " + text + " "));
            whole(1, text, false);
        }
        for (int length = 0; length <= tiles.length(); length++) {
            String text = tiles.substring(0, length);
            whole(1, text, !text.isEmpty() && (" " + tilesEnd + " ").contains(" " + text + " "));
            whole(0, text, false);
        }
        whole(0, "p;p~", false);
        whole(1, "0:00~", false);
    }

    /** A full buffer, 20 parts of it, all done; 30 parts, of which the round has room for four. */
    private static void sixtyCharactersArePlayed() {
        ClockDominoes x = Games.sortedRound(0);
        String text = "t10;" + "c+;".repeat(18) + "c+";
        CHECKS.same("14: its length", text.length(), 60);
        CHECKS.same("14: twenty parts", Games.played(x, text), 20);
        CHECKS.same("14: handed on", x.count(13), 19);
        CHECKS.same("14: from 1 by 19", x.count(2), 0);
        CHECKS.same("14: ticks", x.hand(0, 2), 10);
        CHECKS.same("14: the buffer is clear", x.clearBuffer(), 0);
        ClockDominoes y = Games.sorted();
        y.set(1);
        y.begin(0);
        CHECKS.same("14: four passes end the round", Games.played(y, "t1;p;t1;p;t1;p;t1;p;c+;t1;p"), 8);
        ClockDominoes z = Games.sortedRound(0);
        Games.played(z, "t99;p;t99;p;t99;p;t99");
        CHECKS.same("14: thirty parts, one of them done", Games.played(z, "p;".repeat(29) + "p"), 1);
        CHECKS.same("14: the round has ended", z.count(0), 2);
        CHECKS.same("14: the buffer is clear again", z.clearBuffer(), 0);
    }

    /** "t and 1 to 99, without leading zeros." */
    private static void ticksAreOneTo99() {
        String[] right = {"t1", "t9", "t10", "t59", "t99"};
        int[] left = {59, 51, 50, 1, 0};
        for (int each = 0; each < right.length; each++) {
            ClockDominoes x = Games.sorted();
            x.set(60);
            x.begin(3);
            CHECKS.same("14: " + right[each], Games.played(x, right[each]), 1);
            CHECKS.same("14: the time behind " + right[each], x.hand(3, 2), left[each]);
        }
        for (String wrong : new String[] {"t", "t0", "t00", "t01", "t100", "t-1", "t+1"}) {
            whole(0, wrong, false);
        }
    }

    /** "The clock is handed to the next hand, or to the one before": from 3 to 0, and from 0 to 3. */
    private static void clockGoesRoundInATextToo() {
        ClockDominoes x = Games.sortedRound(2);
        CHECKS.same("14: held by 3", x.count(2), 3);
        Games.played(x, "c+");
        CHECKS.same("14: on to 0", x.count(2), 0);
        Games.played(x, "c-");
        CHECKS.same("14: back to 3", x.count(2), 3);
        Games.played(x, "c+;c+;c-;c-;c-;c-");
        CHECKS.same("14: two on, four back", x.count(2), 1);
    }

    /** "The hand whose turn it is lays it at the left end or at the right end", the hand 3 and then the hand 0. */
    private static void endsOfALayInAText() {
        ClockDominoes x = Games.sortedRound(3);
        CHECKS.same("14: 3, then 0, at the left", Games.played(x, "l36<;c+;l03<"), 3);
        CHECKS.same("14: it lies ahead", x.tile(3, 4), 0);
        CHECKS.same("14: laid by 0", x.tile(3, 5), 0);
        x.undo();
        CHECKS.same("14: 3, then 0, at the right", Games.played(x, "l36<;c+;l06>"), 3);
        CHECKS.same("14: it lies behind", x.tile(6, 4), 1);
        x.undo();
        CHECKS.same("14: it does not fit the right end", Games.played(x, "l36<;c+;l03>"), 2);
    }

    /** "Part by part, up to the first one that would throw": none, some, all; saved as one call, also if none. */
    private static void playUpToTheFirstThatThrows() {
        ClockDominoes x = Games.sortedRound(0);
        CHECKS.same("14: none", Games.played(x, "p;c+;c+"), 0);
        CHECKS.same("14: none, saved", x.count(18), 4);
        CHECKS.same("14: none, and nothing behind it", x.count(13), 0);
        CHECKS.same("14: two of four", Games.played(x, "c+;l05>;l11<;c+"), 2);
        CHECKS.same("14: saved once", x.count(18), 5);
        CHECKS.same("14: all", Games.played(x, "t1;c-;c-;c-"), 4);
        CHECKS.due("14: undo() of four parts", x::undo, 5);
        CHECKS.same("14: the time again", x.hand(1, 2), 20);
        CHECKS.due("14: undo() of two parts", x::undo, 4);
        CHECKS.same("14: the chain is empty again", x.count(3), 0);
        CHECKS.due("14: undo() of none", x::undo, 3);
        CHECKS.same("14: the round is on", x.count(0), 1);
        for (String part : new String[] {"l00<", "p", "c+", "c-", "t1"}) {
            CHECKS.same("14: " + part + " ahead of a round", Games.played(Games.sorted(), part), 0);
            CHECKS.same("14: " + part + " behind a round", Games.played(Games.rowEnded(), part), 0);
        }
    }

    /** A full buffer of 17 tiles in five parts, all of them given. */
    private static void sixtyCharactersAreGiven() {
        ClockDominoes x = new ClockDominoes();
        String text = "0:00,01,02,03,04;1:11,12,13,14;2:22,23,24;3:33,34,35;0:05,06";
        CHECKS.same("15: its length", text.length(), 60);
        CHECKS.same("15: seventeen", Games.given(x, text), 17);
        CHECKS.same("15: of the hands", x.hand(0, 0) * 1000 + x.hand(1, 0) * 100 + x.hand(2, 0) * 10 + x.hand(3, 0), 7433);
        CHECKS.same("15: the last one", x.tile(6, 3), 0);
        CHECKS.same("15: the buffer is clear", x.clearBuffer(), 0);
        CHECKS.due("15: undo() of all", x::undo, 0);
        CHECKS.same("15: all are in the box", x.count(14), 28);
    }

    /** "Up to the first one that would throw": a tile told twice, an eighth one, no round to be on. */
    private static void giveUpToTheFirstThatThrows() {
        ClockDominoes x = new ClockDominoes();
        CHECKS.same("15: a tile told twice", Games.given(x, "3:66,66,56"), 1);
        CHECKS.same("15: none behind it", x.tile(26, 3), 5);
        CHECKS.same("15: the first one is refused", Games.given(x, "0:66;1:00"), 0);
        CHECKS.same("15: that is saved too", x.count(18), 2);
        CHECKS.same("15: no part behind it", x.tile(0, 3), 5);
        CHECKS.same("15: seven, not eight", Games.given(x, "1:00,01,02,03,04,05,06,11;2:12"), 7);
        CHECKS.same("15: the part behind it neither", x.hand(2, 0), 0);
        CHECKS.same("15: to the next hand", Games.given(x, "2:11"), 1);
        CHECKS.same("15: in a round", Games.given(Games.sortedRound(0), "0:00"), 0);
        CHECKS.same("15: behind a round", Games.given(Games.rowEnded(), "0:00"), 0);
        CHECKS.same("15: with an empty box", Games.given(Games.sorted(), "0:00"), 0);
    }

    /** "If there is no snapshot"; "in place of the one that was"; "which stays". */
    private static void snapshotIsTakenAndStays() {
        ClockDominoes x = Games.sortedRound(0);
        Games.unchanged(CHECKS, x, "17: no snapshot", x::goBack, Calls.STATE);
        CHECKS.due("16: an empty chain", x::keep, 0);
        x.lay(0, 5, 0);
        CHECKS.due("17: an empty chain", x::goBack, 0);
        CHECKS.due("17: the same again", x::goBack, 0);
        CHECKS.same("17: both are saved", x.count(18), 6);
        x.undo();
        x.undo();
        CHECKS.same("18: undone, the tile lies", x.count(3), 1);
        CHECKS.due("16: one tile", x::keep, 1);
        x.undo();
        CHECKS.due("17: undo() does not drop it", x::goBack, 1);
        ClockDominoes ended = Games.rowEnded();
        CHECKS.due("16: seven tiles", ended::keep, 7);
        ended.gather();
        ended.deal(1);
        ended.begin(1);
        CHECKS.due("17: seven tiles, behind the round", ended::goBack, 7);
        CHECKS.same("17: the phase", ended.count(0), 2);
        CHECKS.same("17: the rounds", ended.count(9), 1);
    }

    /** "At most 6 states are saved; the oldest one is dropped first"; "if there is none". */
    private static void atMostSixStates() {
        for (int sets = 0; sets <= 14; sets++) {
            ClockDominoes x = new ClockDominoes();
            for (int time = 1; time <= sets; time++) {
                x.set(time);
            }
            int saved = Math.min(sets, 6);
            CHECKS.same("18: saved behind " + sets, x.count(18), saved);
            for (int left = saved - 1; left >= 0; left--) {
                CHECKS.due("18: undo() to " + left + " of " + sets, x::undo, left);
                int setting = sets - saved + left;
                CHECKS.same("18: the setting then", x.count(17), setting == 0 ? 20 : setting);
            }
            Games.unchanged(CHECKS, x, "18: undo() of none behind " + sets, x::undo, Calls.STATE);
        }
    }

    private static void saves(String name, ClockDominoes x, Checks.Call call, int due) {
        int before = x.count(18);
        Checks.told(call);
        CHECKS.same("Undo: " + name + " saves", x.count(18) - before, due);
    }

    /** "Each method that is marked undoable saves the state from before it." */
    private static void eachSavesOnce() {
        ClockDominoes x = new ClockDominoes();
        saves("give", x, () -> x.give(0, 0), 1);
        saves("set", x, () -> x.set(9), 1);
        saves("gather", x, x::gather, 1);
        saves("deal", x, () -> x.deal(0), 1);
        saves("begin", x, () -> x.begin(0), 1);
        ClockDominoes y = Games.sortedRound(0);
        y.keep();
        saves("lay", y, () -> y.lay(0, 0, 0), 1);
        saves("pass", y, () -> y.pass(1), 1);
        saves("goBack", y, y::goBack, 1);
        saves("goBack, with six", y, y::goBack, 0);
        ClockDominoes z = Games.sortedRound(0);
        saves("clock", z, () -> z.clock(1), 1);
        saves("tick", z, () -> z.tick(1), 1);
        Games.write(z, "c+;c+");
        saves("play", z, z::play, 1);
        saves("undo", z, z::undo, -1);
        ClockDominoes w = new ClockDominoes();
        Games.write(w, "0:00,01");
        saves("giveAll", w, w::giveAll, 1);
    }

    private static void savesNothingNew(String name, ClockDominoes x, Checks.Call call) {
        long before = x.digest();
        saves(name, x, call, 1);
        x.undo();
        CHECKS.same("Undo: " + name + " had changed nothing", x.digest(), before);
    }

    /** "Also if it changes nothing." */
    private static void savedAlsoIfNothingChanges() {
        ClockDominoes x = new ClockDominoes();
        savesNothingNew("gather of none", x, x::gather);
        savesNothingNew("set to the same", x, () -> x.set(20));
        x.keep();
        savesNothingNew("goBack to the same", x, x::goBack);
        ClockDominoes y = new ClockDominoes();
        y.deal(0);
        savesNothingNew("deal of none", y, () -> y.deal(0));
        ClockDominoes z = Games.sorted();
        z.begin(0);
        z.tick(99);
        savesNothingNew("tick at no time", z, () -> z.tick(1));
        ClockDominoes v = new ClockDominoes();
        Games.write(v, "p");
        saves("play of none", v, v::play, 1);
        Games.write(v, "0:00");
        v.give(1, 0);
        saves("giveAll of none", v, v::giveAll, 1);
    }

    /** What is not marked saves nothing, and what throws does not. */
    private static void notSaved() {
        ClockDominoes x = Games.sortedRound(0);
        saves("append", x, () -> x.append(112), 0);
        saves("clearBuffer", x, x::clearBuffer, 0);
        saves("firstError", x, () -> x.firstError(0), 0);
        saves("open", x, () -> x.open(0), 0);
        saves("ifLaid", x, () -> x.ifLaid(0, 0, 0, 0), 0);
        saves("digest", x, x::digest, 0);
        saves("a refused lay", x, () -> x.lay(1, 7, 0), 0);
        saves("a refused pass", x, () -> x.pass(0), 0);
        saves("a refused give", x, () -> x.give(0, 0), 0);
        saves("a refused deal", x, () -> x.deal(0), 0);
        saves("a refused begin", x, () -> x.begin(0), 0);
        saves("a refused gather", x, x::gather, 0);
        saves("a refused clock", x, () -> x.clock(2), 0);
        saves("a refused tick", x, () -> x.tick(0), 0);
        saves("a refused set", x, () -> x.set(0), 0);
        saves("a refused play", x, x::play, 0);
        saves("a refused giveAll", x, x::giveAll, 0);
        saves("a refused goBack", x, x::goBack, 0);
        saves("keep", x, x::keep, 0);
    }

    /** "All, also what is counted so far, but the buffer, the snapshot and the saved states." */
    private static void undoRestoresAllButTheBuffer() {
        ClockDominoes x = Games.rowEnded();
        int[] before = new int[18];
        for (int what = 0; what < 18; what++) {
            before[what] = x.count(what);
        }
        x.gather();
        x.set(1);
        x.deal(3);
        x.begin(2);
        x.clock(1);
        x.tick(1);
        x.keep();
        Games.write(x, "~");
        for (int left = 5; left >= 0; left--) {
            CHECKS.due("18: undo() to " + left, x::undo, left);
        }
        for (int what = 0; what < 18; what++) {
            CHECKS.same("18: count(" + what + ") again", x.count(what), before[what]);
        }
        CHECKS.same("18: the time again", x.hand(0, 2), 20);
        CHECKS.same("18: the passes again", x.hand(1, 5), 6);
        CHECKS.same("18: the buffer stays", x.clearBuffer(), 1);
        CHECKS.due("18: the snapshot stays", x::goBack, 0);
        CHECKS.same("18: the snapshot is of the round", x.count(0), 1);
    }
}
