/** Asks the class and the plain model everything that changes nothing, one step beyond each range too. */
final class EveryLook {
    private final Checks checks;
    private final String name;
    private final ClockDominoes real;
    private final PlainModel plain;

    private EveryLook(Checks checks, String name, ClockDominoes real, PlainModel plain) {
        this.checks = checks;
        this.name = name;
        this.real = real;
        this.plain = plain;
    }

    static void compare(Checks checks, String name, ClockDominoes real, PlainModel plain) {
        long before = real.digest();
        EveryLook looks = new EveryLook(checks, name, real, plain);
        looks.looks();
        looks.known();
        looks.wouldBe();
        checks.same(name + ": the digest behind looks", real.digest(), before);
    }

    private void both(String call, Checks.Call mine, Checks.Call due) {
        checks.same(name + ": " + call, Checks.told(mine), Checks.told(due));
    }

    private void looks() {
        for (int what = -1; what <= 19; what++) {
            int asked = what;
            both("count(" + what + ")", () -> real.count(asked), () -> plain.count(asked));
        }
        for (int one = -1; one <= 28; one++) {
            for (int what = -1; what <= 11; what++) {
                int first = one;
                int asked = what;
                String arguments = "(" + one + ", " + what + ")";
                both("tile" + arguments, () -> real.tile(first, asked), () -> plain.tile(first, asked));
                both("chain" + arguments, () -> real.chain(first, asked), () -> plain.chain(first, asked));
                both("hand" + arguments, () -> real.hand(first, asked), () -> plain.hand(first, asked));
                both("tileOf" + arguments, () -> real.tileOf(first, asked), () -> plain.tileOf(first, asked));
            }
        }
    }

    private void known() {
        for (int looker = -1; looker <= 4; looker++) {
            for (int second = -1; second <= 4; second++) {
                int from = looker;
                int other = second;
                String arguments = "(" + looker + ", " + second + ")";
                both("deals" + arguments, () -> real.deals(from, other), () -> plain.deals(from, other));
                both("sure" + arguments, () -> real.sure(from, other), () -> plain.sure(from, other));
                for (int tile = -1; tile <= 28; tile++) {
                    int asked = tile;
                    String all = "(" + looker + ", " + second + ", " + tile + ")";
                    both("having" + all, () -> real.having(from, other, asked), () -> plain.having(from, other, asked));
                    both("likely" + all, () -> real.likely(from, other, asked), () -> plain.likely(from, other, asked));
                }
            }
        }
    }

    private void wouldBe() {
        for (int hand = -1; hand <= 4; hand++) {
            for (int tile = -1; tile <= 28; tile++) {
                for (int end = -1; end <= 2; end++) {
                    wouldBe(hand, tile, end);
                }
            }
        }
        for (int what = -1; what <= 3; what++) {
            int asked = what;
            both("open(" + what + ")", () -> real.open(asked), () -> plain.open(asked));
            both("firstError(" + what + ")", () -> real.firstError(asked), () -> plain.firstError(asked));
        }
        both("meanPips()", real::meanPips, plain::meanPips);
        both("digest()", real::digest, plain::digest);
    }

    private void wouldBe(int hand, int tile, int end) {
        String arguments = "(" + hand + ", " + tile + ", " + end + ")";
        both("why" + arguments, () -> real.why(hand, tile, end), () -> plain.why(hand, tile, end));
        for (int what = -1; what <= 3; what++) {
            int asked = what;
            both("ifLaid" + arguments + " of " + what,
                () -> real.ifLaid(hand, tile, end, asked), () -> plain.ifLaid(hand, tile, end, asked));
        }
    }
}
