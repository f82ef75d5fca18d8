import java.util.List;

/**
 * Asks the class and the plain model everything that changes nothing, one step beyond each range too. It is more than
 * an object of the class may be asked, so new ones go the same steps, each used for at most 512 calls.
 */
final class EveryLook {
    static final int MOST_CALLS = 512;

    private final Checks checks;
    private final String name;
    private final List<Calls.Step> steps;
    private final PlainModel plain;
    private ClockDominoes real;
    private int calls;
    private String before;

    private EveryLook(Checks checks, String name, List<Calls.Step> steps, PlainModel plain) {
        this.checks = checks;
        this.name = name;
        this.steps = steps;
        this.plain = plain;
    }

    /** The steps are those that the plain model went too. */
    static void compare(Checks checks, String name, List<Calls.Step> steps, PlainModel plain) {
        EveryLook looks = new EveryLook(checks, name, steps, plain);
        looks.begin();
        looks.looks();
        looks.known();
        looks.wouldBe();
        looks.end();
    }

    private void begin() {
        real = new ClockDominoes();
        for (Calls.Step step : steps) {
            step.real(real);
        }
        before = digest();
        calls = steps.size() + 1;
    }

    private String digest() {
        return Checks.told(() -> real.digest());
    }

    /** The last call of an object: looks have changed nothing. */
    private void end() {
        checks.same(name + ": the digest behind looks", digest(), before);
    }

    private void both(String call, int... arguments) {
        if (calls == MOST_CALLS - 1) {
            end();
            begin();
        }
        calls++;
        Calls.Step look = new Calls.Step(call, arguments);
        String due = look.plain(plain);
        checks.same(name + ": " + look.text(), look.real(real), due);
    }

    private void looks() {
        for (int what = -1; what <= 19; what++) {
            both("count", what);
        }
        for (int one = -1; one <= 28; one++) {
            for (int what = -1; what <= 11; what++) {
                both("tile", one, what);
                both("chain", one, what);
                both("hand", one, what);
                both("tileOf", one, what);
            }
        }
    }

    private void known() {
        for (int looker = -1; looker <= 4; looker++) {
            for (int second = -1; second <= 4; second++) {
                both("deals", looker, second);
                both("sure", looker, second);
                for (int tile = -1; tile <= 28; tile++) {
                    both("having", looker, second, tile);
                    both("likely", looker, second, tile);
                }
            }
        }
    }

    private void wouldBe() {
        for (int hand = -1; hand <= 4; hand++) {
            for (int tile = -1; tile <= 28; tile++) {
                for (int end = -1; end <= 2; end++) {
                    wouldBe(hand, tile, end);
                }
            }
        }
        for (int what = -1; what <= 3; what++) {
            both("open", what);
            both("firstError", what);
        }
        both("meanPips");
        both("digest");
    }

    private void wouldBe(int hand, int tile, int end) {
        both("why", hand, tile, end);
        for (int what = -1; what <= 3; what++) {
            both("ifLaid", hand, tile, end, what);
        }
    }
}
