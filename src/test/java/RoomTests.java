import java.lang.management.ManagementFactory;

/** All calls of a run live in one room: an object makes its rows once, and no call makes more. */
public final class RoomTests {
    private static final Checks CHECKS = new Checks();
    private static final com.sun.management.ThreadMXBean MEMORY =
        (com.sun.management.ThreadMXBean) ManagementFactory.getThreadMXBean();

    public static void main(String[] args) {
        long sum = 0;
        for (ClockDominoes x : objects()) {
            sum += manyCalls(x);
        }
        for (ClockDominoes x : objects()) {
            long before = MEMORY.getCurrentThreadAllocatedBytes();
            sum += manyCalls(x);
            long made = MEMORY.getCurrentThreadAllocatedBytes() - before;
            CHECKS.same("270 calls make nothing (" + made + " bytes)", made < 2000, true);
        }
        long before = MEMORY.getCurrentThreadAllocatedBytes();
        ClockDominoes x = new ClockDominoes();
        long made = MEMORY.getCurrentThreadAllocatedBytes() - before;
        CHECKS.same("an object is small (" + made + " bytes)", made > 0 && made < 32000, true);
        CHECKS.same("the calls have answered", sum + x.count(14) != 0, true);
        CHECKS.end();
    }

    private static ClockDominoes[] objects() {
        return new ClockDominoes[] {Games.sortedRound(0), Rounds.untilFew(7, 9), Games.rowEnded()};
    }

    private static long manyCalls(ClockDominoes x) {
        long sum = 0;
        for (int step = 0; step < 30; step++) {
            x.append('p');
            x.set(1 + step % 60);
            sum += x.play();
            x.keep();
            sum += x.digest();
            x.goBack();
            sum += x.open(0) + x.sure(0, 1);
            x.undo();
        }
        return sum;
    }
}
