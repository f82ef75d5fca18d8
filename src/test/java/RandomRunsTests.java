import java.util.ArrayList;
import java.util.List;
import java.util.Random;

/**
 * Long runs of chosen calls on the class and on the plain model, whose answers must be alike. An object is used for at
 * most 512 calls, as the document says: what each one tells of all its state is asked of others that go the same steps.
 */
public final class RandomRunsTests {
    private static final int RUNS = 210;
    // A step may take some fifty calls more, for a text.
    private static final int FEWEST_CALLS = 200;
    private static final int MORE_CALLS = 30;

    private final Checks checks;
    private final Random random;
    private final ClockDominoes real = new ClockDominoes();
    private final PlainModel plain = new PlainModel();
    private final String name;
    private final int eager;
    private final int most;
    private final List<Calls.Step> steps = new ArrayList<>();
    private int calls;
    private final int[] ends = new int[3];

    private RandomRunsTests(Checks checks, int seed) {
        this.checks = checks;
        random = new Random(seed);
        name = "run " + seed;
        eager = 70 + 10 * (seed % 3);
        most = FEWEST_CALLS + MORE_CALLS * (seed % 7);
    }

    public static void main(String[] args) {
        Checks checks = new Checks();
        int[] seen = new int[3];
        for (int seed = 1; seed <= RUNS && checks.failures() == 0; seed++) {
            RandomRunsTests run = new RandomRunsTests(checks, seed);
            run.go();
            for (int each = 0; each < seen.length; each++) {
                seen[each] += run.ends[each];
            }
        }
        if (checks.failures() == 0) {
            checks.same("rounds ended by an empty hand were seen", seen[0] > 20, true);
            checks.same("rounds ended by four passes were seen", seen[1] > 20, true);
            checks.same("plays with open hands were seen", seen[2] > 200, true);
        }
        checks.end();
    }

    private void go() {
        while (calls < most && checks.failures() == 0) {
            boolean on = plain.state().phase == PlainModel.Phase.ON;
            act();
            boolean ended = on && plain.state().phase == PlainModel.Phase.BEHIND;
            if (ended) {
                ends[plain.state().inRow == 4 ? 1 : 0]++;
            }
            ends[2] += plain.open(0) != PlainModel.NONE ? 1 : 0;
            if (ended || random.nextInt(6) == 0) {
                look("digest");
            }
            if (ended && random.nextInt(2) == 0 || random.nextInt(90) == 0) {
                EveryLook.compare(checks, name, steps, plain);
            }
        }
        checks.same(name + " takes at most 512 calls (" + calls + ")", calls <= EveryLook.MOST_CALLS, true);
    }

    private void both(String call, int... arguments) {
        Calls.Step step = new Calls.Step(call, arguments);
        steps.add(step);
        ask(step);
    }

    private void look(String call, int... arguments) {
        ask(new Calls.Step(call, arguments));
    }

    private void ask(Calls.Step step) {
        calls++;
        String due = step.plain(plain);
        checks.same(name + ", call " + calls + ": " + step.text(), step.real(real), due);
    }

    private void act() {
        int chance = random.nextInt(1000);
        if (chance < 12) {
            both("undo");
        } else if (chance < 18) {
            both("keep");
        } else if (chance < 23) {
            both("goBack");
        } else if (chance < 33) {
            int time = random.nextInt(4) > 0 ? 1 + random.nextInt(6) : random.nextInt(64) - 1;
            both("set", time);
        } else if (chance < 45) {
            write(random.nextBoolean() ? gameText() : tilesText());
            send();
        } else if (random.nextInt(100) >= eager) {
            actAnyhow();
        } else if (plain.state().phase == PlainModel.Phase.ON) {
            actInRound();
        } else {
            actOutside();
        }
    }

    private void actAnyhow() {
        int hand = random.nextInt(20) == 0 ? random.nextInt(7) - 2 : turnOrAny();
        int tile = random.nextInt(20) == 0 ? random.nextInt(34) - 3 : tileOfOrAny(hand);
        int end = random.nextInt(20) == 0 ? random.nextInt(5) - 2 : random.nextInt(2);
        switch (random.nextInt(8)) {
            case 0 -> both("give", hand, tile);
            case 1 -> both("deal", random.nextInt(4100) - 2);
            case 2 -> both("begin", hand);
            case 3 -> both("lay", hand, tile, end);
            case 4 -> both("pass", hand);
            case 5 -> both("clock", end);
            case 6 -> both("tick", random.nextInt(3) > 0 ? random.nextInt(4) : random.nextInt(103) - 1);
            default -> {
                if (random.nextInt(4) == 0) {
                    both("gather");
                }
            }
        }
    }

    private void actOutside() {
        PlainModel.State state = plain.state();
        if (state.phase == PlainModel.Phase.BEHIND) {
            both("gather");
        } else if (state.box.isEmpty()) {
            both("begin", random.nextInt(4));
        } else if (random.nextInt(3) > 0) {
            List<Integer> box = new ArrayList<>(state.box);
            both("give", random.nextInt(4), box.get(random.nextInt(box.size())));
        } else {
            both("deal", random.nextInt(4096));
        }
    }

    private void actInRound() {
        int hand = plain.state().turn;
        List<int[]> lays = new ArrayList<>();
        boolean fits = false;
        for (int tile : plain.state().hands.get(hand)) {
            for (int end = 0; end <= 1; end++) {
                int why = plain.why(hand, tile, end);
                fits |= why == 0 || why == 5;
                if (why == 0) {
                    lays.add(new int[] {tile, end});
                }
            }
        }
        if (!lays.isEmpty()) {
            int[] lay = lays.get(random.nextInt(lays.size()));
            both("lay", hand, lay[0], lay[1]);
        } else if (plain.hand(hand, 8) == 0) {
            both("pass", hand);
        } else if (fits) {
            both("clock", random.nextInt(2));
        } else {
            both("tick", 1 + random.nextInt(9));
        }
    }

    private int turnOrAny() {
        int turn = plain.state().turn;
        return turn >= 0 && random.nextInt(3) > 0 ? turn : random.nextInt(4);
    }

    private int tileOfOrAny(int hand) {
        boolean own = hand >= 0 && hand < 4 && !plain.state().hands.get(hand).isEmpty();
        List<Integer> tiles = own ? new ArrayList<>(plain.state().hands.get(hand)) : List.of(random.nextInt(28));
        return random.nextInt(4) > 0 ? tiles.get(random.nextInt(tiles.size())) : random.nextInt(28);
    }

    // ---- texts

    private void write(String text) {
        if (random.nextInt(3) > 0) {
            both("clearBuffer");
        }
        for (int place = 0; place < text.length(); place++) {
            both("append", text.charAt(place));
        }
    }

    private void send() {
        look("firstError", 0);
        look("firstError", 1);
        both("play");
        both("giveAll");
    }

    private String gameText() {
        StringBuilder text = new StringBuilder();
        int parts = 1 + random.nextInt(5);
        for (int part = 0; part < parts; part++) {
            text.append(part > 0 ? ";" : "").append(gamePart());
        }
        return spoiled(text);
    }

    private String gamePart() {
        int tile = tileOfOrAny(turnOrAny());
        String figures = "l" + plain.tile(tile, 0) + plain.tile(tile, 1);
        return switch (random.nextInt(6)) {
            case 0 -> "p";
            case 1, 2 -> random.nextBoolean() ? "c+" : "c-";
            case 3 -> "t" + (1 + random.nextInt(random.nextBoolean() ? 3 : 99));
            default -> figures + (random.nextBoolean() ? "<" : ">");
        };
    }

    private String tilesText() {
        StringBuilder text = new StringBuilder();
        int parts = 1 + random.nextInt(3);
        for (int part = 0; part < parts; part++) {
            text.append(part > 0 ? ";" : "").append(random.nextInt(4)).append(':');
            int tiles = 1 + random.nextInt(4);
            for (int each = 0; each < tiles; each++) {
                int tile = random.nextInt(28);
                text.append(each > 0 ? "," : "").append(plain.tile(tile, 0)).append(plain.tile(tile, 1));
            }
        }
        return spoiled(text);
    }

    private String spoiled(StringBuilder text) {
        if (random.nextInt(6) == 0) {
            text.setCharAt(random.nextInt(text.length()), (char) (33 + random.nextInt(94)));
        }
        if (random.nextInt(8) == 0) {
            text.setLength(random.nextInt(text.length() + 1));
        }
        return text.toString();
    }
}
