import java.util.ArrayList;
import java.util.Arrays;
import java.util.List;

/** The calls that lead from a new object to a situation; the class and the plain model go them alike. */
final class Way {
    private static final String[] SORTED = {
        "write " + Games.ZERO_AND_ONE, "giveAll", "write " + Games.TWO_AND_THREE, "giveAll"
    };
    private static final String[] ROW = {"write " + Games.ROW_AND_REST, "giveAll", "write " + Games.REST, "giveAll"};

    private final String name;
    private final List<String> steps;

    private Way(String name, List<String> steps) {
        this.name = name;
        this.steps = steps;
    }

    String name() {
        return name;
    }

    static Way of(String name, String... steps) {
        return new Way(name, List.of(steps));
    }

    private Way and(String... more) {
        List<String> all = new ArrayList<>(steps);
        all.addAll(Arrays.asList(more));
        return new Way(name, all);
    }

    /** One situation at least for all that can be empty and all that can be full. */
    static List<Way> all() {
        String full = "p;".repeat(30);
        return List.of(
            of("new"),
            of("one full hand, one hand without tiles", "give 0 0", "give 0 1", "give 0 2", "give 0 3", "give 0 27",
                "give 0 26", "give 0 25", "give 1 13", "give 3 20", "write 1:14,15"),
            of("few tiles in the hands, a snapshot", "deal 77", "undo", "write 0:66;1:00", "giveAll", "keep",
                "deal 5", "undo", "give 0 13"),
            of("one tile in the box", SORTED).and("undo", "write 2:23,24,25,26,33,34,35;3:36,44,45,46,55,56", "giveAll"),
            of("all tiles dealt, a full buffer, six saved states", "set 1", "set 2", "set 3", "keep", "set 4", "set 60",
                "deal 4095", "set 2", "write " + full),
            of("a round begins", SORTED).and("begin 3", "write l66<;p"),
            of("one tile lies", SORTED).and("begin 0", "lay 0 5 1", "keep", "write 0:00"),
            of("no time is left", SORTED).and("set 1", "begin 2", "lay 2 18 0", "tick 1", "clock 1"),
            of("three hands lack 0", SORTED).and("begin 0", "write l00<;p;p;p", "play", "write l05>;l15>"),
            of("a round ended by an empty hand", ROW).and("begin 0", "write l00>;t99;p;t99;p;t99;p", "play",
                "write l01>;p;p;p;l11>;p;p;p;l12>;p;p;p;l22>;p;p;p", "play", "keep", "write l23>;p;p;p;l33>", "play"),
            of("a round ended by four passes", SORTED).and("begin 0", "lay 0 0 0", "pass 1", "pass 2", "pass 3",
                "tick 20", "pass 0"),
            of("gathered", SORTED).and("begin 0", "write l00<;p;p;p;l06<;t99;p;t99;p;t99;p;t99;p", "play", "gather"),
            untilFew("ten tiles in the hands", 9, 10),
            untilFew("nine tiles in the hands", 9, 9),
            untilFew("six tiles in the hands", 40, 6));
    }

    /** A round of the deal in which each hand lays its lowest tile that fits, until so few tiles are left. */
    private static Way untilFew(String name, int number, int tiles) {
        PlainModel guide = new PlainModel();
        List<String> steps = new ArrayList<>();
        go(guide, steps, "deal " + number);
        go(guide, steps, "begin " + number % 4);
        for (int step = 0; step < 200 && guide.state().phase == PlainModel.Phase.ON && held(guide) > tiles; step++) {
            go(guide, steps, nextStep(guide));
        }
        if (guide.state().phase != PlainModel.Phase.ON || held(guide) != tiles) {
            throw new IllegalStateException("the deal " + number + " does not come to " + tiles + " tiles");
        }
        go(guide, steps, "write p");
        return new Way(name, steps);
    }

    private static int held(PlainModel guide) {
        return guide.state().hands.stream().mapToInt(hand -> hand.size()).sum();
    }

    private static String nextStep(PlainModel guide) {
        int hand = guide.state().turn;
        for (int tile : guide.state().hands.get(hand)) {
            for (int end = 0; end <= 1; end++) {
                int why = guide.why(hand, tile, end);
                if (why == 5) {
                    return "clock 1";
                }
                if (why == 0) {
                    return "lay " + hand + " " + tile + " " + end;
                }
            }
        }
        return "pass " + hand;
    }

    private static void go(PlainModel guide, List<String> steps, String step) {
        steps.add(step);
        goStep(guide, step);
    }

    ClockDominoes real() {
        ClockDominoes x = new ClockDominoes();
        for (String step : steps) {
            if (step.startsWith("write ")) {
                Games.write(x, step.substring(6));
            } else {
                Calls.real(x, nameOf(step), argumentsOf(step));
            }
        }
        return x;
    }

    PlainModel plain() {
        PlainModel x = new PlainModel();
        for (String step : steps) {
            goStep(x, step);
        }
        return x;
    }

    private static void goStep(PlainModel x, String step) {
        if (step.startsWith("write ")) {
            x.clearBuffer();
            step.substring(6).chars().forEach(x::append);
        } else {
            Calls.plain(x, nameOf(step), argumentsOf(step));
        }
    }

    private static String nameOf(String step) {
        return step.split(" ")[0];
    }

    private static int[] argumentsOf(String step) {
        return Arrays.stream(step.split(" ")).skip(1).mapToInt(Integer::parseInt).toArray();
    }
}
