import java.util.ArrayList;
import java.util.HashMap;
import java.util.List;
import java.util.Map;
import java.util.TreeSet;

/**
 * The document told once more, as plainly as can be and without a look at the class: sets and lists, copies of
 * the whole state, deals by giving tile after tile in all ways. It may use the whole Java library.
 */
final class PlainModel {
    static final int NONE = -1;

    record Laid(int tile, int left, int right, int hand, int number) {
    }

    enum Phase { AHEAD, ON, BEHIND }

    static final class State {
        TreeSet<Integer> box = new TreeSet<>();
        List<TreeSet<Integer>> hands = new ArrayList<>();
        List<Laid> chain = new ArrayList<>();
        List<TreeSet<Integer>> lacks = new ArrayList<>();
        int[] time = new int[4];
        int[] passesOf = new int[4];
        int[] points = new int[2];
        Phase phase = Phase.AHEAD;
        int turn = NONE;
        int clock = NONE;
        int latest = NONE;
        int setting = 20;
        int inRow;
        int rounds;
        int lays;
        int passes;
        int handed;

        State() {
            for (int tile = 0; tile < 28; tile++) {
                box.add(tile);
            }
            for (int hand = 0; hand < 4; hand++) {
                hands.add(new TreeSet<>());
                lacks.add(new TreeSet<>());
            }
        }

        State copy() {
            State copy = new State();
            copy.box = new TreeSet<>(box);
            for (int hand = 0; hand < 4; hand++) {
                copy.hands.set(hand, new TreeSet<>(hands.get(hand)));
                copy.lacks.set(hand, new TreeSet<>(lacks.get(hand)));
            }
            copy.chain = new ArrayList<>(chain);
            copy.time = time.clone();
            copy.passesOf = passesOf.clone();
            copy.points = points.clone();
            copy.phase = phase;
            copy.turn = turn;
            copy.clock = clock;
            copy.latest = latest;
            copy.setting = setting;
            copy.inRow = inRow;
            copy.rounds = rounds;
            copy.lays = lays;
            copy.passes = passes;
            copy.handed = handed;
            return copy;
        }
    }

    private static final List<int[]> PAIRS = new ArrayList<>();

    static {
        for (int a = 0; a <= 6; a++) {
            for (int b = a; b <= 6; b++) {
                PAIRS.add(new int[] {a, b});
            }
        }
    }

    private State state = new State();
    private State snapshot;
    private final List<State> saved = new ArrayList<>();
    private String buffer = "";

    State state() {
        return state;
    }

    private static int a(int tile) {
        return PAIRS.get(tile)[0];
    }

    private static int b(int tile) {
        return PAIRS.get(tile)[1];
    }

    private static int pips(int tile) {
        return a(tile) + b(tile);
    }

    private static boolean isDouble(int tile) {
        return a(tile) == b(tile);
    }

    private static boolean has(int tile, int value) {
        return a(tile) == value || b(tile) == value;
    }

    private static void place(boolean right) {
        if (!right) {
            throw new IndexOutOfBoundsException();
        }
    }

    private static void argument(boolean right) {
        if (!right) {
            throw new IllegalArgumentException();
        }
    }

    private static void allowed(boolean right) {
        if (!right) {
            throw new IllegalStateException();
        }
    }

    private static boolean in(int number, int from, int to) {
        return from <= number && number <= to;
    }

    private void save() {
        saved.add(state.copy());
        if (saved.size() > 6) {
            saved.remove(0);
        }
    }

    // ---- ahead of a round

    int give(int hand, int tile) {
        place(in(hand, 0, 3) && in(tile, 0, 27));
        allowed(canGive(hand, tile));
        save();
        giveNow(hand, tile);
        return state.hands.get(hand).size();
    }

    private boolean canGive(int hand, int tile) {
        return state.phase == Phase.AHEAD && state.box.contains(tile) && state.hands.get(hand).size() < 7;
    }

    private void giveNow(int hand, int tile) {
        state.box.remove(tile);
        state.hands.get(hand).add(tile);
    }

    int deal(int number) {
        argument(in(number, 0, 4095));
        allowed(state.phase == Phase.AHEAD);
        save();
        int before = state.box.size();
        int x = number;
        for (TreeSet<Integer> hand : state.hands) {
            while (hand.size() < 7) {
                x = (73 * x + 41) % 4096;
                int tile = new ArrayList<>(state.box).get(x % state.box.size());
                state.box.remove(tile);
                hand.add(tile);
            }
        }
        return before - state.box.size();
    }

    int begin(int hand) {
        place(in(hand, 0, 3));
        allowed(state.phase == Phase.AHEAD && state.box.isEmpty());
        save();
        state.phase = Phase.ON;
        state.turn = hand;
        state.clock = (hand + 1) % 4;
        state.latest = NONE;
        state.inRow = 0;
        state.rounds++;
        for (int each = 0; each < 4; each++) {
            state.time[each] = state.setting;
            state.passesOf[each] = 0;
            state.lacks.get(each).clear();
        }
        return doubles(hand);
    }

    private int doubles(int hand) {
        return (int) state.hands.get(hand).stream().filter(PlainModel::isDouble).count();
    }

    int gather() {
        allowed(state.phase != Phase.ON);
        save();
        int before = state.box.size();
        for (int hand = 0; hand < 4; hand++) {
            state.box.addAll(state.hands.get(hand));
            state.hands.get(hand).clear();
            state.lacks.get(hand).clear();
        }
        for (Laid laid : state.chain) {
            state.box.add(laid.tile());
        }
        state.chain.clear();
        state.phase = Phase.AHEAD;
        state.latest = NONE;
        return state.box.size() - before;
    }

    // ---- in a round

    int lay(int hand, int tile, int end) {
        place(in(hand, 0, 3) && in(tile, 0, 27));
        argument(in(end, 0, 1));
        allowed(why(hand, tile, end) == 0);
        save();
        return layNow(hand, tile, end);
    }

    private int layNow(int hand, int tile, int end) {
        int ahead = state.points[hand % 2];
        putOnChain(state, hand, tile, end);
        state.lays++;
        return state.points[hand % 2] - ahead;
    }

    /** Lays the tile, with the points, the turn and the end of the round, whatever forbids it. */
    private static void putOnChain(State on, int hand, int tile, int end) {
        int number = on.chain.size() + 1;
        if (on.chain.isEmpty()) {
            on.chain.add(new Laid(tile, a(tile), b(tile), hand, number));
        } else if (end == 0) {
            int joint = on.chain.get(0).left();
            on.chain.add(0, new Laid(tile, a(tile) == joint ? b(tile) : a(tile), joint, hand, number));
        } else {
            int joint = on.chain.get(on.chain.size() - 1).right();
            on.chain.add(new Laid(tile, joint, a(tile) == joint ? b(tile) : a(tile), hand, number));
        }
        on.hands.get(hand).remove(tile);
        on.latest = hand;
        on.inRow = 0;
        int sum = openSum(on);
        if (sum > 0 && sum % 5 == 0) {
            on.points[hand % 2] += sum / 5;
        }
        on.turn = (hand + 1) % 4;
        if (on.hands.get(hand).isEmpty()) {
            int others = on.hands.stream().flatMap(TreeSet::stream).mapToInt(PlainModel::pips).sum();
            on.points[hand % 2] += others / 5;
            on.phase = Phase.BEHIND;
            on.turn = NONE;
        }
    }

    private static int openSum(State on) {
        if (on.chain.isEmpty()) {
            return 0;
        }
        Laid first = on.chain.get(0);
        Laid last = on.chain.get(on.chain.size() - 1);
        if (on.chain.size() == 1) {
            return first.left() + first.right();
        }
        int sum = first.left() + last.right();
        sum += first.left() == first.right() ? first.left() : 0;
        sum += last.left() == last.right() ? last.right() : 0;
        return sum;
    }

    int pass(int hand) {
        place(in(hand, 0, 3));
        allowed(whyNoPass(hand) == 0);
        save();
        return passNow(hand);
    }

    private int passNow(int hand) {
        if (state.time[hand] > 0) {
            state.lacks.get(hand).add(end(state, 0));
            state.lacks.get(hand).add(end(state, 1));
        }
        state.passes++;
        state.passesOf[hand]++;
        passOn(state, hand);
        return state.inRow;
    }

    private static void passOn(State on, int hand) {
        on.inRow++;
        on.turn = (hand + 1) % 4;
        if (on.inRow == 4) {
            int zero = pipsOf(on, 0) + pipsOf(on, 2);
            int one = pipsOf(on, 1) + pipsOf(on, 3);
            on.points[zero < one ? 0 : 1] += Math.abs(zero - one) / 5;
            on.phase = Phase.BEHIND;
            on.turn = NONE;
        }
    }

    private static int pipsOf(State on, int hand) {
        return on.hands.get(hand).stream().mapToInt(PlainModel::pips).sum();
    }

    private static int end(State on, int end) {
        if (on.chain.isEmpty()) {
            return NONE;
        }
        return end == 0 ? on.chain.get(0).left() : on.chain.get(on.chain.size() - 1).right();
    }

    private static boolean fits(State on, int tile, int end) {
        return on.chain.isEmpty() || has(tile, end(on, end));
    }

    private static boolean fitsAny(State on, int tile) {
        return fits(on, tile, 0) || fits(on, tile, 1);
    }

    int clock(int next) {
        argument(in(next, 0, 1));
        allowed(state.phase == Phase.ON);
        save();
        return clockNow(next);
    }

    private int clockNow(int next) {
        state.handed++;
        state.clock = Math.floorMod(state.clock + (next == 1 ? 1 : -1), 4);
        return state.clock;
    }

    int tick(int ticks) {
        argument(in(ticks, 1, 99));
        allowed(state.phase == Phase.ON);
        save();
        return tickNow(ticks);
    }

    private int tickNow(int ticks) {
        for (int each = 0; each < ticks && state.time[state.turn] > 0; each++) {
            state.time[state.turn]--;
        }
        return state.time[state.turn];
    }

    int set(int time) {
        argument(in(time, 1, 60));
        save();
        int before = state.setting;
        state.setting = time;
        return before;
    }

    // ---- texts, the snapshot

    int append(int code) {
        argument(in(code, 33, 126));
        allowed(buffer.length() < 60);
        buffer += (char) code;
        return buffer.length();
    }

    int clearBuffer() {
        int before = buffer.length();
        buffer = "";
        return before;
    }

    int firstError(int what) {
        argument(in(what, 0, 1));
        return what == 0 ? PlainTexts.firstErrorOfGame(buffer) : PlainTexts.firstErrorOfTiles(buffer);
    }

    int play() {
        argument(PlainTexts.isGame(buffer));
        save();
        int done = 0;
        for (String part : buffer.split(";")) {
            if (!playPart(part)) {
                break;
            }
            done++;
        }
        buffer = "";
        return done;
    }

    private boolean playPart(String part) {
        char kind = part.charAt(0);
        if (kind == 'l') {
            int tile = tileOf(part.charAt(1) - '0', part.charAt(2) - '0');
            int end = part.charAt(3) == '<' ? 0 : 1;
            boolean can = state.phase == Phase.ON && why(state.turn, tile, end) == 0;
            if (can) {
                layNow(state.turn, tile, end);
            }
            return can;
        }
        if (kind == 'p') {
            boolean can = state.phase == Phase.ON && whyNoPass(state.turn) == 0;
            if (can) {
                passNow(state.turn);
            }
            return can;
        }
        if (state.phase != Phase.ON) {
            return false;
        }
        if (kind == 'c') {
            clockNow(part.charAt(1) == '+' ? 1 : 0);
        } else {
            tickNow(Integer.parseInt(part.substring(1)));
        }
        return true;
    }

    int giveAll() {
        argument(PlainTexts.isTiles(buffer));
        save();
        String all = buffer;
        buffer = "";
        int given = 0;
        for (String part : all.split(";")) {
            int hand = part.charAt(0) - '0';
            for (String figures : part.substring(2).split(",")) {
                int tile = tileOf(figures.charAt(0) - '0', figures.charAt(1) - '0');
                if (!canGive(hand, tile)) {
                    return given;
                }
                giveNow(hand, tile);
                given++;
            }
        }
        return given;
    }

    int keep() {
        snapshot = state.copy();
        return state.chain.size();
    }

    int goBack() {
        allowed(snapshot != null);
        save();
        state = snapshot.copy();
        return state.chain.size();
    }

    int undo() {
        allowed(!saved.isEmpty());
        state = saved.remove(saved.size() - 1);
        return saved.size();
    }

    // ---- looks

    int tile(int tile, int what) {
        place(in(tile, 0, 27));
        argument(in(what, 0, 6));
        int at = NONE;
        for (int each = 0; each < state.chain.size(); each++) {
            at = state.chain.get(each).tile() == tile ? each : at;
        }
        int where = at >= 0 ? 4 : 5;
        for (int hand = 0; hand < 4; hand++) {
            where = state.hands.get(hand).contains(tile) ? hand : where;
        }
        int layer = at >= 0 ? state.chain.get(at).hand() : NONE;
        return new int[] {a(tile), b(tile), pips(tile), where, at, layer, fitsAny(state, tile) ? 1 : 0}[what];
    }

    int tileOf(int one, int other) {
        place(in(one, 0, 6) && in(other, 0, 6));
        for (int tile = 0; tile < 28; tile++) {
            if (a(tile) == Math.min(one, other) && b(tile) == Math.max(one, other)) {
                return tile;
            }
        }
        return NONE;
    }

    int chain(int place, int what) {
        place(place >= 0);
        argument(in(what, 0, 3));
        if (place >= state.chain.size()) {
            return NONE;
        }
        Laid laid = state.chain.get(place);
        return new int[] {laid.tile(), laid.left(), laid.right(), laid.number()}[what];
    }

    int hand(int hand, int what) {
        place(in(hand, 0, 3));
        argument(in(what, 0, 9));
        TreeSet<Integer> tiles = state.hands.get(hand);
        switch (what) {
            case 0:
                return tiles.size();
            case 1:
                return pipsOf(state, hand);
            case 2:
                return state.time[hand];
            case 3:
                return state.lacks.get(hand).stream().mapToInt(value -> 1 << value).sum();
            case 4:
                return (int) tiles.stream().filter(tile -> fitsAny(state, tile)).count();
            case 5:
                return state.passesOf[hand];
            case 6:
                return doubles(hand);
            case 7:
                return tiles.isEmpty() ? NONE : tiles.first();
            case 8:
                return whyNoPass(hand);
            default:
                return longest(new ArrayList<>(tiles), NONE);
        }
    }

    private static int longest(List<Integer> tiles, int end) {
        int best = 0;
        for (int tile : tiles) {
            List<Integer> rest = new ArrayList<>(tiles);
            rest.remove(Integer.valueOf(tile));
            if (end == NONE || a(tile) == end) {
                best = Math.max(best, 1 + longest(rest, b(tile)));
            }
            if (end == NONE || b(tile) == end) {
                best = Math.max(best, 1 + longest(rest, a(tile)));
            }
        }
        return best;
    }

    private boolean neutral() {
        return state.phase == Phase.ON && state.clock != state.turn && state.clock != state.latest;
    }

    int count(int what) {
        argument(in(what, 0, 18));
        return new int[] {
            state.phase.ordinal(), state.turn, state.clock, state.chain.size(), end(state, 0), end(state, 1),
            openSum(state), state.points[0], state.points[1], state.rounds, state.lays, state.passes, state.inRow,
            state.handed, state.box.size(), neutral() ? 1 : 0, state.latest, state.setting, saved.size()
        }[what];
    }

    int why(int hand, int tile, int end) {
        place(in(hand, 0, 3) && in(tile, 0, 27));
        argument(in(end, 0, 1));
        boolean[] reasons = {
            state.phase != Phase.ON, state.turn != hand, !state.hands.get(hand).contains(tile),
            !fits(state, tile, end), !neutral(), state.time[hand] == 0
        };
        for (int reason = 0; reason < reasons.length; reason++) {
            if (reasons[reason]) {
                return reason + 1;
            }
        }
        return 0;
    }

    private int whyNoPass(int hand) {
        if (state.phase != Phase.ON) {
            return 1;
        }
        if (state.turn != hand) {
            return 2;
        }
        boolean fits = state.hands.get(hand).stream().anyMatch(tile -> fitsAny(state, tile));
        return state.time[hand] > 0 && fits ? 3 : 0;
    }

    // ---- what is known

    int deals(int looker, int way) {
        place(in(looker, 0, 3));
        argument(in(way, 0, 1));
        return (int) countDeals(looker, NONE, NONE);
    }

    int having(int looker, int hand, int tile) {
        place(in(looker, 0, 3) && in(hand, 0, 3) && in(tile, 0, 27));
        if (hand == looker) {
            return state.hands.get(hand).contains(tile) ? deals(looker, 0) : 0;
        }
        return secret(looker).contains(tile) ? (int) countDeals(looker, hand, tile) : 0;
    }

    int sure(int looker, int hand) {
        place(in(looker, 0, 3) && in(hand, 0, 3));
        int all = deals(looker, 0);
        int sure = 0;
        for (int tile = 0; tile < 28 && all > 0; tile++) {
            sure += having(looker, hand, tile) == all ? 1 : 0;
        }
        return sure;
    }

    double likely(int looker, int hand, int tile) {
        place(in(looker, 0, 3) && in(hand, 0, 3) && in(tile, 0, 27));
        int all = deals(looker, 0);
        return all == 0 ? 0.0 : (double) having(looker, hand, tile) / all;
    }

    private List<Integer> secret(int looker) {
        List<Integer> secret = new ArrayList<>();
        for (int hand = 0; hand < 4; hand++) {
            if (hand != looker) {
                secret.addAll(state.hands.get(hand));
            }
        }
        return secret;
    }

    /** The deals in which the owner has the fixed tile; all deals, if there is no owner. */
    private long countDeals(int looker, int owner, int fixed) {
        int[] free = new int[4];
        for (int hand = 0; hand < 4; hand++) {
            free[hand] = hand == looker ? 0 : state.hands.get(hand).size();
        }
        return countRest(secret(looker), 0, free, owner, fixed, new HashMap<>());
    }

    private long countRest(List<Integer> tiles, int from, int[] free, int owner, int fixed, Map<String, Long> known) {
        if (from == tiles.size()) {
            return 1;
        }
        String key = from + ":" + free[0] + free[1] + free[2] + free[3];
        Long before = known.get(key);
        if (before != null) {
            return before;
        }
        int tile = tiles.get(from);
        long sum = 0;
        for (int hand = 0; hand < 4; hand++) {
            boolean lacks = state.lacks.get(hand).stream().anyMatch(value -> has(tile, value));
            if (free[hand] > 0 && !lacks && (tile != fixed || hand == owner)) {
                free[hand]--;
                sum += countRest(tiles, from + 1, free, owner, fixed, known);
                free[hand]++;
            }
        }
        known.put(key, sum);
        return sum;
    }

    // ---- what would be

    int ifLaid(int hand, int tile, int end, int what) {
        place(in(hand, 0, 3) && in(tile, 0, 27));
        argument(in(end, 0, 1) && in(what, 0, 2));
        if (state.phase != Phase.ON || !state.hands.get(hand).contains(tile) || !fits(state, tile, end)) {
            return NONE;
        }
        State then = state.copy();
        putOnChain(then, hand, tile, end);
        if (what == 0) {
            return then.points[hand % 2] - state.points[hand % 2];
        }
        if (what == 1) {
            return openSum(then);
        }
        return (int) then.hands.get((hand + 1) % 4).stream().filter(each -> fitsAny(then, each)).count();
    }

    int open(int what) {
        argument(in(what, 0, 2));
        int tiles = state.hands.stream().mapToInt(TreeSet::size).sum();
        if (state.phase != Phase.ON || tiles > 9) {
            return NONE;
        }
        int team = state.turn % 2;
        int[] best = bestOf(state);
        best[0] -= state.points[team] - state.points[1 - team];
        return best[what];
    }

    /** Points of the own team less those of the other one at the end of the round, the tile, the end. */
    private static int[] bestOf(State on) {
        int hand = on.turn;
        int[] best = null;
        for (int tile : on.hands.get(hand)) {
            for (int end = 0; end <= 1; end++) {
                if (fits(on, tile, end)) {
                    State then = on.copy();
                    putOnChain(then, hand, tile, end);
                    int gain = atEnd(then, hand % 2);
                    if (best == null || gain > best[0]) {
                        best = new int[] {gain, tile, end};
                    }
                }
            }
        }
        if (best != null) {
            return best;
        }
        State then = on.copy();
        passOn(then, hand);
        return new int[] {atEnd(then, hand % 2), NONE, NONE};
    }

    private static int atEnd(State on, int team) {
        if (on.phase == Phase.BEHIND) {
            return on.points[team] - on.points[1 - team];
        }
        int best = bestOf(on)[0];
        return on.turn % 2 == team ? best : -best;
    }

    float meanPips() {
        int tiles = 0;
        int pips = 0;
        for (int hand = 0; hand < 4; hand++) {
            tiles += state.hands.get(hand).size();
            pips += pipsOf(state, hand);
        }
        return tiles == 0 ? 0.0f : (float) pips / tiles;
    }

    long digest() {
        List<Long> values = new ArrayList<>();
        for (int what = 0; what <= 18; what++) {
            values.add((long) count(what));
        }
        for (int tile = 0; tile < 28; tile++) {
            for (int what = 0; what <= 6; what++) {
                values.add((long) tile(tile, what));
            }
        }
        for (int place = 0; place < state.chain.size(); place++) {
            for (int what = 0; what <= 3; what++) {
                values.add((long) chain(place, what));
            }
        }
        for (int hand = 0; hand < 4; hand++) {
            for (int what = 0; what <= 9; what++) {
                values.add((long) hand(hand, what));
            }
            values.add((long) deals(hand, 0));
            values.add((long) deals(hand, 1));
        }
        addKnown(values);
        values.add(Double.doubleToLongBits(likely(2, 3, 6)));
        values.add((long) Float.floatToIntBits(meanPips()));
        values.add(snapshot == null ? 0L : 1L);
        values.add((long) buffer.length());
        buffer.chars().forEach(code -> values.add((long) code));
        long hash = 3793;
        for (long value : values) {
            hash = 31 * hash + value;
        }
        return hash;
    }

    private void addKnown(List<Long> values) {
        for (int hand = 1; hand <= 3; hand++) {
            for (int tile : new int[] {0, 13, 27}) {
                values.add((long) having(0, hand, tile));
            }
        }
        for (int hand = 0; hand <= 3; hand++) {
            values.add((long) sure(1, hand));
        }
        for (int what = 0; what <= 2; what++) {
            values.add((long) open(what));
        }
    }
}
