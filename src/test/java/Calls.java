import java.util.Arrays;
import java.util.List;

/** The methods of the face by their names, with the range of each argument and what is thrown beyond it. */
final class Calls {
    static final String PLACE = "IndexOutOfBoundsException";
    static final String ARGUMENT = "IllegalArgumentException";
    static final String STATE = "IllegalStateException";

    /** An argument: what is thrown if it is below the lowest or above the highest number. */
    record Range(String thrown, int low, int high) {
        boolean holds(int number) {
            return low <= number && number <= high;
        }
    }

    /** A method that changes something is told apart from a look. */
    record Method(String name, boolean changes, List<Range> ranges) {
        /** What the arguments alone make it throw; the document names the place ahead of the argument. */
        String thrown(int[] arguments) {
            for (String first : List.of(PLACE, ARGUMENT)) {
                for (int each = 0; each < arguments.length; each++) {
                    Range range = ranges.get(each);
                    if (range.thrown().equals(first) && !range.holds(arguments[each])) {
                        return first;
                    }
                }
            }
            return null;
        }
    }

    /** One call of a run, that the class and the plain model are asked alike. */
    record Step(String name, int... arguments) {
        String real(ClockDominoes x) {
            return Checks.told(() -> Calls.real(x, name, arguments));
        }

        String plain(PlainModel x) {
            return Checks.told(() -> Calls.plain(x, name, arguments));
        }

        String text() {
            return name + Arrays.toString(arguments);
        }
    }

    private static final Range HAND = new Range(PLACE, 0, 3);
    private static final Range TILE = new Range(PLACE, 0, 27);
    private static final Range VALUE = new Range(PLACE, 0, 6);
    private static final Range SWITCH = numbers(0, 1);

    static final List<Method> CHANGES = List.of(
        change("give", HAND, TILE), change("deal", numbers(0, 4095)), change("begin", HAND), change("gather"),
        change("lay", HAND, TILE, SWITCH), change("pass", HAND), change("clock", SWITCH),
        change("tick", numbers(1, 99)), change("set", numbers(1, 60)), change("append", numbers(33, 126)),
        change("clearBuffer"), change("play"), change("giveAll"), change("keep"), change("goBack"), change("undo"));

    static final List<Method> LOOKS = List.of(
        look("firstError", SWITCH), look("tile", TILE, numbers(0, 6)), look("tileOf", VALUE, VALUE),
        look("chain", new Range(PLACE, 0, Integer.MAX_VALUE), numbers(0, 3)), look("hand", HAND, numbers(0, 9)),
        look("count", numbers(0, 18)), look("why", HAND, TILE, SWITCH), look("deals", HAND, SWITCH),
        look("having", HAND, HAND, TILE), look("sure", HAND, HAND), look("likely", HAND, HAND, TILE),
        look("ifLaid", HAND, TILE, SWITCH, numbers(0, 2)), look("open", numbers(0, 2)), look("meanPips"),
        look("digest"));

    private Calls() {
    }

    private static Range numbers(int low, int high) {
        return new Range(ARGUMENT, low, high);
    }

    private static Method change(String name, Range... ranges) {
        return new Method(name, true, List.of(ranges));
    }

    private static Method look(String name, Range... ranges) {
        return new Method(name, false, List.of(ranges));
    }

    static Object real(ClockDominoes x, String name, int... a) {
        return switch (name) {
            case "give" -> x.give(a[0], a[1]);
            case "deal" -> x.deal(a[0]);
            case "begin" -> x.begin(a[0]);
            case "gather" -> x.gather();
            case "lay" -> x.lay(a[0], a[1], a[2]);
            case "pass" -> x.pass(a[0]);
            case "clock" -> x.clock(a[0]);
            case "tick" -> x.tick(a[0]);
            case "set" -> x.set(a[0]);
            case "append" -> x.append(a[0]);
            case "clearBuffer" -> x.clearBuffer();
            case "firstError" -> x.firstError(a[0]);
            case "play" -> x.play();
            case "giveAll" -> x.giveAll();
            case "keep" -> x.keep();
            case "goBack" -> x.goBack();
            case "undo" -> x.undo();
            case "tile" -> x.tile(a[0], a[1]);
            case "tileOf" -> x.tileOf(a[0], a[1]);
            case "chain" -> x.chain(a[0], a[1]);
            case "hand" -> x.hand(a[0], a[1]);
            case "count" -> x.count(a[0]);
            case "why" -> x.why(a[0], a[1], a[2]);
            case "deals" -> x.deals(a[0], a[1]);
            case "having" -> x.having(a[0], a[1], a[2]);
            case "sure" -> x.sure(a[0], a[1]);
            case "likely" -> x.likely(a[0], a[1], a[2]);
            case "ifLaid" -> x.ifLaid(a[0], a[1], a[2], a[3]);
            case "open" -> x.open(a[0]);
            case "meanPips" -> x.meanPips();
            case "digest" -> x.digest();
            default -> throw new IllegalArgumentException(name);
        };
    }

    static Object plain(PlainModel x, String name, int... a) {
        return switch (name) {
            case "give" -> x.give(a[0], a[1]);
            case "deal" -> x.deal(a[0]);
            case "begin" -> x.begin(a[0]);
            case "gather" -> x.gather();
            case "lay" -> x.lay(a[0], a[1], a[2]);
            case "pass" -> x.pass(a[0]);
            case "clock" -> x.clock(a[0]);
            case "tick" -> x.tick(a[0]);
            case "set" -> x.set(a[0]);
            case "append" -> x.append(a[0]);
            case "clearBuffer" -> x.clearBuffer();
            case "firstError" -> x.firstError(a[0]);
            case "play" -> x.play();
            case "giveAll" -> x.giveAll();
            case "keep" -> x.keep();
            case "goBack" -> x.goBack();
            case "undo" -> x.undo();
            case "tile" -> x.tile(a[0], a[1]);
            case "tileOf" -> x.tileOf(a[0], a[1]);
            case "chain" -> x.chain(a[0], a[1]);
            case "hand" -> x.hand(a[0], a[1]);
            case "count" -> x.count(a[0]);
            case "why" -> x.why(a[0], a[1], a[2]);
            case "deals" -> x.deals(a[0], a[1]);
            case "having" -> x.having(a[0], a[1], a[2]);
            case "sure" -> x.sure(a[0], a[1]);
            case "likely" -> x.likely(a[0], a[1], a[2]);
            case "ifLaid" -> x.ifLaid(a[0], a[1], a[2], a[3]);
            case "open" -> x.open(a[0]);
            case "meanPips" -> x.meanPips();
            case "digest" -> x.digest();
            default -> throw new IllegalArgumentException(name);
        };
    }
}
