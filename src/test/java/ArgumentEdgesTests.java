import java.util.ArrayList;
import java.util.Arrays;
import java.util.List;

/**
 * Each argument of each method: just below its range, just above it, at both of its ends, and as far off as an int
 * can be, with all such numbers of the other arguments, in situations in which each thing is empty or full. A call
 * that is refused throws what the document names first, and changes nothing: neither the state, nor what is saved,
 * nor the snapshot, nor the buffer.
 */
public final class ArgumentEdgesTests {
    private static final Checks CHECKS = new Checks();
    // An object is used for at most 512 calls; a way takes less than 300 of them.
    private static final int CALLS_OF_LOOKS = 100;

    private final Way way;
    private final String untouched;
    private int accepted;
    private int refused;

    private ArgumentEdgesTests(Way way) {
        this.way = way;
        untouched = whole(way.real());
    }

    public static void main(String[] args) {
        for (Way way : Way.all()) {
            ArgumentEdgesTests edges = new ArgumentEdgesTests(way);
            CHECKS.same(way.name() + ": the digest", way.real().digest(), way.plain().digest());
            Calls.CHANGES.forEach(edges::changesAt);
            Calls.LOOKS.forEach(edges::looksAt);
            CHECKS.same(way.name() + ": calls were accepted", edges.accepted > 70, true);
            CHECKS.same(way.name() + ": calls were refused", edges.refused > 1500, true);
        }
        CHECKS.end();
    }

    /** All that an object holds, told as a text: its state, what it has saved, and its snapshot. Uses it up. */
    private static String whole(ClockDominoes x) {
        StringBuilder text = new StringBuilder().append(x.digest());
        for (int step = 0; step < 7; step++) {
            text.append(' ').append(Checks.told(x::undo)).append(' ').append(x.digest());
        }
        text.append(' ').append(Checks.told(x::goBack)).append(' ').append(x.digest());
        return text.toString();
    }

    private static List<int[]> edgesOf(Calls.Method method) {
        List<int[]> edges = new ArrayList<>();
        addEdges(method.ranges(), new int[0], edges);
        return edges;
    }

    private static void addEdges(List<Calls.Range> ranges, int[] start, List<int[]> edges) {
        if (start.length == ranges.size()) {
            edges.add(start);
            return;
        }
        Calls.Range range = ranges.get(start.length);
        long[] numbers = {
            Integer.MIN_VALUE, range.low() - 1L, range.low(), range.high(), range.high() + 1L, Integer.MAX_VALUE
        };
        for (long number : Arrays.stream(numbers).filter(each -> each <= Integer.MAX_VALUE).distinct().toArray()) {
            int[] more = Arrays.copyOf(start, start.length + 1);
            more[start.length] = (int) number;
            addEdges(ranges, more, edges);
        }
    }

    private String nameOf(Calls.Method method, int[] arguments) {
        return way.name() + ": " + method.name() + Arrays.toString(arguments);
    }

    /** What is due: by the ranges alone if an argument is beyond its own, else by the plain model. */
    private String dueOf(Calls.Method method, int[] arguments, PlainModel plain) {
        String thrown = method.thrown(arguments);
        return thrown != null ? "throws." + thrown : Checks.told(() -> Calls.plain(plain, method.name(), arguments));
    }

    private void changesAt(Calls.Method method) {
        for (int[] arguments : edgesOf(method)) {
            String name = nameOf(method, arguments);
            ClockDominoes x = way.real();
            PlainModel plain = method.thrown(arguments) == null ? way.plain() : null;
            String due = dueOf(method, arguments, plain);
            CHECKS.same(name, Checks.told(() -> Calls.real(x, method.name(), arguments)), due);
            if (due.startsWith("throws.")) {
                refused++;
                CHECKS.same(name + " is refused, all behind it", whole(x), untouched);
            } else {
                accepted++;
                CHECKS.same(name + ", the digest behind it", x.digest(), plain.digest());
                CHECKS.same(name + ", undo() behind it", Checks.told(x::undo), Checks.told(plain::undo));
                CHECKS.same(name + ", the digest behind undo()", x.digest(), plain.digest());
            }
        }
    }

    private void looksAt(Calls.Method method) {
        PlainModel plain = way.plain();
        ClockDominoes x = way.real();
        int calls = 0;
        for (int[] arguments : edgesOf(method)) {
            if (calls == CALLS_OF_LOOKS) {
                CHECKS.same(nameOf(method, arguments) + ", all behind looks", whole(x), untouched);
                x = way.real();
                calls = 0;
            }
            calls++;
            ClockDominoes asked = x;
            String due = dueOf(method, arguments, plain);
            accepted += due.startsWith("throws.") ? 0 : 1;
            refused += due.startsWith("throws.") ? 1 : 0;
            CHECKS.same(nameOf(method, arguments), Checks.told(() -> Calls.real(asked, method.name(), arguments)), due);
        }
        CHECKS.same(way.name() + ": " + method.name() + ", all behind looks", whole(x), untouched);
    }
}
