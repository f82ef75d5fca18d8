/** Promises 16 to 18: keep, goBack, undo. */
public final class UndoTests {
    private static final Checks CHECKS = new Checks();
    private static final String STATE = "IllegalStateException";

    public static void main(String[] args) {
        keep();
        goBack();
        undo();
        sixStates();
        allComesBack();
        CHECKS.end();
    }

    private static void keep() {
        ClockDominoes x = Games.sortedRound(0);
        long before = x.digest();
        CHECKS.due("16: keep() without a chain", x::keep, 0);
        CHECKS.same("16: it is not undoable", x.count(18), 3);
        CHECKS.same("16: the digest tells of the snapshot", x.digest() == before, false);
        x.lay(0, 0, 0);
        CHECKS.due("16: keep() with one tile", x::keep, 1);
        Games.played(x, "p;p;p;l05>");
        CHECKS.same("16: two tiles", x.count(3), 2);
        CHECKS.due("16: the later snapshot counts", x::goBack, 1);
        x.undo();
        CHECKS.due("16: undo() does not drop it", x::goBack, 1);
    }

    private static void goBack() {
        ClockDominoes x = new ClockDominoes();
        Games.unchanged(CHECKS, x, "17: goBack() without a snapshot", x::goBack, STATE);
        x.give(0, 5);
        x.keep();
        x.deal(8);
        x.set(2);
        x.begin(1);
        Games.write(x, "p;");
        CHECKS.due("17: goBack()", x::goBack, 0);
        CHECKS.same("17: ahead of a round", x.count(0), 0);
        CHECKS.same("17: one tile is given", x.count(14), 27);
        CHECKS.same("17: the setting", x.count(17), 20);
        CHECKS.same("17: no rounds", x.count(9), 0);
        CHECKS.same("17: saved states stay, and one more", x.count(18), 5);
        CHECKS.same("17: the buffer stays", x.clearBuffer(), 2);
        CHECKS.due("17: undo()", x::undo, 4);
        CHECKS.same("17: the round again", x.count(9), 1);
        CHECKS.due("17: the snapshot stays", x::goBack, 0);
        CHECKS.due("17: goBack() again is saved too", x::goBack, 0);
        CHECKS.same("17: saved", x.count(18), 6);
        x.give(0, 6);
        CHECKS.due("17: and is not changed by what follows", x::goBack, 0);
        CHECKS.same("17: 6 is in the box", x.tile(6, 3), 5);
    }

    private static void undo() {
        ClockDominoes x = new ClockDominoes();
        Games.unchanged(CHECKS, x, "18: undo() of nothing", x::undo, STATE);
        x.give(0, 0);
        x.give(0, 1);
        Games.write(x, "p");
        CHECKS.due("18: undo()", x::undo, 1);
        CHECKS.same("18: one tile", x.hand(0, 0), 1);
        CHECKS.due("18: undo() again", x::undo, 0);
        CHECKS.same("18: none", x.hand(0, 0), 0);
        CHECKS.same("18: the buffer stays", x.clearBuffer(), 1);
        Games.unchanged(CHECKS, x, "18: undo() of nothing left", x::undo, STATE);
        CHECKS.noState("18: what throws saves nothing", () -> x.lay(0, 0, 0));
        CHECKS.same("18: saved", x.count(18), 0);
        CHECKS.same("18: as new", x.digest(), new ClockDominoes().digest());
    }

    private static void sixStates() {
        ClockDominoes x = new ClockDominoes();
        for (int time = 1; time <= 15; time++) {
            x.set(time);
            CHECKS.same("18: saved behind " + time, x.count(18), Math.min(time, 6));
        }
        for (int left = 5; left >= 0; left--) {
            CHECKS.due("18: undo() to " + left, x::undo, left);
            CHECKS.same("18: the setting of then", x.count(17), 9 + left);
        }
        CHECKS.noState("18: the oldest ones are dropped", x::undo);
        CHECKS.same("18: the setting stays", x.count(17), 9);
        x.set(40);
        x.set(41);
        CHECKS.due("18: undo() behind new ones", x::undo, 1);
        CHECKS.same("18: the setting", x.count(17), 40);
    }

    /** Each step of a round is taken back; only how many states are saved differs then. */
    private static void allComesBack() {
        ClockDominoes x = Games.sorted();
        ClockDominoes y = Games.sorted();
        y.begin(0);
        x.begin(0);
        Games.played(y, "l00<;p;p;p;c+;l05>");
        Games.played(x, "l00<;p;p;p;c+;l05>");
        x.tick(3);
        x.undo();
        CHECKS.same("18: tick", x.digest(), y.digest());
        x.clock(1);
        x.undo();
        CHECKS.same("18: clock", x.digest(), y.digest());
        x.set(3);
        x.undo();
        CHECKS.same("18: set", x.digest(), y.digest());
        x.clock(1);
        y.clock(1);
        x.lay(1, 11, 1);
        x.undo();
        CHECKS.same("18: lay", x.digest(), y.digest());
        Games.played(x, "t20;p;p;t20;p;t20;p");
        x.undo();
        CHECKS.same("18: play", x.digest(), y.digest());
        pass();
    }

    private static void pass() {
        ClockDominoes x = Games.sortedRound(0);
        ClockDominoes y = Games.sortedRound(0);
        x.lay(0, 0, 1);
        y.lay(0, 0, 1);
        x.pass(1);
        x.undo();
        CHECKS.same("18: pass", x.digest(), y.digest());
        ClockDominoes ended = Games.rowEnded();
        ClockDominoes same = Games.rowEnded();
        same.set(20);
        ended.gather();
        ended.undo();
        same.undo();
        CHECKS.same("18: gather", ended.digest(), same.digest());
    }
}
