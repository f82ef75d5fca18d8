/** Dominoes that may be laid only while a neutral hand holds the clock. */
public final class ClockDominoes {
    public static final int NONE = -1;

    private static final int TILES = 28;
    private static final int VALUES = 7;
    private static final int HANDS = 4;
    private static final int TEAMS = 2;
    private static final int HAND_LIMIT = 7;

    private static final int IN_CHAIN = 4;
    private static final int IN_BOX = 5;

    private static final int AHEAD = 0;
    private static final int ON = 1;
    private static final int BEHIND = 2;

    private static final int LEFT = 0;
    private static final int RIGHT = 1;

    private static final int GAME = 0;
    private static final int GIFTS = 1;

    private static final int LAST_DEAL = 4095;
    private static final int FIRST_TIME = 20;
    private static final int LAST_TIME = 60;
    private static final int LAST_TICKS = 99;
    private static final int FIRST_CODE = 33;
    private static final int LAST_CODE = 126;
    private static final int TEXT_LIMIT = 60;
    private static final int SAVED_LIMIT = 6;
    private static final int OPEN_LIMIT = 9;
    private static final int SECRET_LIMIT = 21;

    private static final int LAST_COUNT = 18;
    private static final int LAST_OF_TILE = 6;
    private static final int LAST_OF_CHAIN = 3;
    private static final int LAST_OF_HAND = 9;

    private static final int DOUBLE_FRACTION = 52;
    private static final int DOUBLE_BIAS = 1023;
    private static final int FLOAT_FRACTION = 23;
    private static final int FLOAT_BIAS = 127;

    private final Table now;
    private final Table snapshot;
    private final History history;
    private final Text text;
    private final Secrets secrets;
    private final OpenHands openHands;
    private final Trail trail;
    private boolean kept;

    public ClockDominoes() {
        now = new Table();
        snapshot = new Table();
        history = new History();
        text = new Text();
        secrets = new Secrets();
        openHands = new OpenHands();
        trail = new Trail();
        kept = false;
    }

    // ---- ahead of a round

    public int give(int hand, int tile) throws IndexOutOfBoundsException, IllegalStateException {
        if (!isHand(hand) || !isTile(tile)) {
            throw new IndexOutOfBoundsException("no such hand or tile");
        }
        if (!now.canGive(hand, tile)) {
            throw new IllegalStateException("the tile can not be given");
        }
        history.save(now);
        now.giveTile(hand, tile);
        return now.sizeOf(hand);
    }

    public int deal(int number) throws IllegalArgumentException, IllegalStateException {
        if (number < 0 || number > LAST_DEAL) {
            throw new IllegalArgumentException("number is not 0 to 4095");
        }
        if (now.phase != AHEAD) {
            throw new IllegalStateException("it is not ahead of a round");
        }
        history.save(now);
        return now.dealTiles(number);
    }

    public int begin(int hand) throws IndexOutOfBoundsException, IllegalStateException {
        if (!isHand(hand)) {
            throw new IndexOutOfBoundsException("no such hand");
        }
        if (!now.canBegin()) {
            throw new IllegalStateException("no round can be begun");
        }
        history.save(now);
        now.beginRound(hand);
        return now.doublesOf(hand);
    }

    public int gather() throws IllegalStateException {
        if (now.phase == ON) {
            throw new IllegalStateException("a round is on");
        }
        history.save(now);
        return now.gatherTiles();
    }

    // ---- in a round

    public int lay(int hand, int tile, int end)
            throws IndexOutOfBoundsException, IllegalArgumentException, IllegalStateException {
        if (!isHand(hand) || !isTile(tile)) {
            throw new IndexOutOfBoundsException("no such hand or tile");
        }
        if (!isSwitch(end)) {
            throw new IllegalArgumentException("end is not 0 or 1");
        }
        if (now.layReason(hand, tile, end) != 0) {
            throw new IllegalStateException("the hand can not lay the tile");
        }
        history.save(now);
        return now.layTile(hand, tile, end);
    }

    public int pass(int hand) throws IndexOutOfBoundsException, IllegalStateException {
        if (!isHand(hand)) {
            throw new IndexOutOfBoundsException("no such hand");
        }
        if (now.passReason(hand) != 0) {
            throw new IllegalStateException("the hand can not pass");
        }
        history.save(now);
        return now.passTurn(hand);
    }

    public int clock(int next) throws IllegalArgumentException, IllegalStateException {
        if (!isSwitch(next)) {
            throw new IllegalArgumentException("next is not 0 or 1");
        }
        if (now.phase != ON) {
            throw new IllegalStateException("no round is on");
        }
        history.save(now);
        return now.handClock(next);
    }

    public int tick(int ticks) throws IllegalArgumentException, IllegalStateException {
        if (ticks < 1 || ticks > LAST_TICKS) {
            throw new IllegalArgumentException("ticks is not 1 to 99");
        }
        if (now.phase != ON) {
            throw new IllegalStateException("no round is on");
        }
        history.save(now);
        return now.spendTime(ticks);
    }

    public int set(int time) throws IllegalArgumentException {
        if (time < 1 || time > LAST_TIME) {
            throw new IllegalArgumentException("time is not 1 to 60");
        }
        history.save(now);
        int before = now.setting;
        now.setting = time;
        return before;
    }

    // ---- texts, the snapshot

    public int append(int code) throws IllegalArgumentException, IllegalStateException {
        if (code < FIRST_CODE || code > LAST_CODE) {
            throw new IllegalArgumentException("code is not 33 to 126");
        }
        if (text.isFull()) {
            throw new IllegalStateException("the buffer has 60 characters");
        }
        text.add(code);
        return text.length;
    }

    public int clearBuffer() {
        int before = text.length;
        text.empty();
        return before;
    }

    public int firstError(int what) throws IllegalArgumentException {
        if (!isSwitch(what)) {
            throw new IllegalArgumentException("what is not 0 or 1");
        }
        return text.firstWrong(what);
    }

    public int play() throws IllegalArgumentException {
        if (!text.isWhole(GAME)) {
            throw new IllegalArgumentException("the buffer is not a complete game");
        }
        history.save(now);
        int done = 0;
        int place = 0;
        while (done < TEXT_LIMIT && place < text.length && canDoPart(place)) {
            doPart(place);
            done++;
            place = text.nextPart(place);
        }
        text.empty();
        return done;
    }

    public int giveAll() throws IllegalArgumentException {
        if (!text.isWhole(GIFTS)) {
            throw new IllegalArgumentException("the buffer is not complete tiles");
        }
        history.save(now);
        int given = giveTold();
        text.empty();
        return given;
    }

    public int keep() {
        snapshot.copyFrom(now);
        kept = true;
        return now.chain.size;
    }

    public int goBack() throws IllegalStateException {
        if (!kept) {
            throw new IllegalStateException("there is no snapshot");
        }
        history.save(now);
        now.copyFrom(snapshot);
        return now.chain.size;
    }

    public int undo() throws IllegalStateException {
        if (history.count == 0) {
            throw new IllegalStateException("there is no saved state");
        }
        history.restore(now);
        return history.count;
    }

    // ---- looks; nothing is changed

    public int tile(int tile, int what) throws IndexOutOfBoundsException, IllegalArgumentException {
        if (!isTile(tile)) {
            throw new IndexOutOfBoundsException("no such tile");
        }
        switch (what) {
            case 0:
                return Tile.low(tile);
            case 1:
                return Tile.high(tile);
            case 2:
                return Tile.pips(tile);
            case 3:
                return now.placeOf(tile);
            case 4:
                return now.chain.placeOf(tile);
            case 5:
                return Rows.at(now.chain.layers, now.chain.placeOf(tile));
            case 6:
                return now.chain.fitsSome(tile) ? 1 : 0;
            default:
                throw new IllegalArgumentException("what is not 0 to 6");
        }
    }

    public int tileOf(int one, int other) throws IndexOutOfBoundsException {
        if (!isValue(one) || !isValue(other)) {
            throw new IndexOutOfBoundsException("no such value");
        }
        return Tile.number(one, other);
    }

    public int chain(int place, int what) throws IndexOutOfBoundsException, IllegalArgumentException {
        if (place < 0) {
            throw new IndexOutOfBoundsException("place is below 0");
        }
        if (what < 0 || what > LAST_OF_CHAIN) {
            throw new IllegalArgumentException("what is not 0 to 3");
        }
        if (place >= now.chain.size) {
            return NONE;
        }
        switch (what) {
            case 0:
                return Rows.at(now.chain.tiles, place);
            case 1:
                return Rows.at(now.chain.lefts, place);
            case 2:
                return now.chain.rightOf(place);
            default:
                return Rows.at(now.chain.numbers, place);
        }
    }

    public int hand(int hand, int what) throws IndexOutOfBoundsException, IllegalArgumentException {
        if (!isHand(hand)) {
            throw new IndexOutOfBoundsException("no such hand");
        }
        switch (what) {
            case 0:
                return now.sizeOf(hand);
            case 1:
                return now.pipsOf(hand);
            case 2:
                return Rows.at(now.times, hand);
            case 3:
                return Rows.at(now.lacks, hand);
            case 4:
                return now.fittingOf(hand);
            case 5:
                return Rows.at(now.passes, hand);
            case 6:
                return now.doublesOf(hand);
            case 7:
                return now.lowestOf(hand);
            case 8:
                return now.passReason(hand);
            case 9:
                return trail.longest(now, hand);
            default:
                throw new IllegalArgumentException("what is not 0 to 9");
        }
    }

    public int count(int what) throws IllegalArgumentException {
        switch (what) {
            case 0:
                return now.phase;
            case 1:
                return now.turn;
            case 2:
                return now.holder;
            case 3:
                return now.chain.size;
            case 4:
                return now.chain.endValue(LEFT);
            case 5:
                return now.chain.endValue(RIGHT);
            case 6:
                return now.chain.openSum();
            case 7:
                return Rows.at(now.points, 0);
            case 8:
                return Rows.at(now.points, 1);
            case 9:
                return now.rounds;
            case 10:
                return now.lays;
            case 11:
                return now.allPasses;
            case 12:
                return now.passedInRow;
            case 13:
                return now.handings;
            case 14:
                return now.sizeOf(IN_BOX);
            case 15:
                return now.isNeutral() ? 1 : 0;
            case 16:
                return now.latest;
            case 17:
                return now.setting;
            case 18:
                return history.count;
            default:
                throw new IllegalArgumentException("what is not 0 to 18");
        }
    }

    public int why(int hand, int tile, int end) throws IndexOutOfBoundsException, IllegalArgumentException {
        if (!isHand(hand) || !isTile(tile)) {
            throw new IndexOutOfBoundsException("no such hand or tile");
        }
        if (!isSwitch(end)) {
            throw new IllegalArgumentException("end is not 0 or 1");
        }
        return now.layReason(hand, tile, end);
    }

    // ---- what is known; nothing is changed

    public int deals(int looker, int way) throws IndexOutOfBoundsException, IllegalArgumentException {
        if (!isHand(looker)) {
            throw new IndexOutOfBoundsException("no such hand");
        }
        if (!isSwitch(way)) {
            throw new IllegalArgumentException("way is not 0 or 1");
        }
        secrets.look(now, looker);
        return (int) (way == 0 ? secrets.tileByTile() : secrets.byKinds());
    }

    public int having(int looker, int hand, int tile) throws IndexOutOfBoundsException {
        if (!isHand(looker) || !isHand(hand) || !isTile(tile)) {
            throw new IndexOutOfBoundsException("no such hand or tile");
        }
        secrets.look(now, looker);
        if (hand != looker) {
            return (int) secrets.withKind(hand, secrets.kindAt(tile));
        }
        return now.placeOf(tile) == looker ? (int) secrets.byKinds() : 0;
    }

    public int sure(int looker, int hand) throws IndexOutOfBoundsException {
        if (!isHand(looker) || !isHand(hand)) {
            throw new IndexOutOfBoundsException("no such hand");
        }
        secrets.look(now, looker);
        long all = secrets.byKinds();
        if (all == 0) {
            return 0;
        }
        return hand == looker ? now.sizeOf(hand) : secrets.sureTiles(hand, all);
    }

    public double likely(int looker, int hand, int tile) throws IndexOutOfBoundsException {
        if (!isHand(looker) || !isHand(hand) || !isTile(tile)) {
            throw new IndexOutOfBoundsException("no such hand or tile");
        }
        int all = deals(looker, 1);
        return all == 0 ? 0.0 : (double) having(looker, hand, tile) / all;
    }

    // ---- what would be; nothing is changed

    public int ifLaid(int hand, int tile, int end, int what)
            throws IndexOutOfBoundsException, IllegalArgumentException {
        if (!isHand(hand) || !isTile(tile)) {
            throw new IndexOutOfBoundsException("no such hand or tile");
        }
        if (!isSwitch(end) || what < 0 || what > 2) {
            throw new IllegalArgumentException("end is not 0 or 1, or what is not 0 to 2");
        }
        if (now.phase != ON || now.placeOf(tile) != hand || !now.chain.fits(tile, end)) {
            return NONE;
        }
        switch (what) {
            case 0:
                return now.gainOf(hand, tile, end);
            case 1:
                return now.chain.openSumWith(tile, end);
            default:
                return now.fittingWith(Seats.next(hand), tile, end);
        }
    }

    public int open(int what) throws IllegalArgumentException {
        if (what < 0 || what > 2) {
            throw new IllegalArgumentException("what is not 0 to 2");
        }
        if (now.phase != ON || now.tilesInHands() > OPEN_LIMIT) {
            return NONE;
        }
        openHands.look(now);
        switch (what) {
            case 0:
                return openHands.gain;
            case 1:
                return openHands.bestTile;
            default:
                return openHands.bestEnd;
        }
    }

    public float meanPips() {
        int tiles = now.tilesInHands();
        return tiles == 0 ? 0.0f : (float) now.pipsInHands() / tiles;
    }

    public long digest() {
        long hash = 3793;
        for (int what = 0; what <= LAST_COUNT; what++) {
            hash = 31 * hash + count(what);
        }
        hash = hashTiles(hash);
        hash = hashHands(hash);
        hash = hashKnown(hash);
        for (int what = 0; what <= 2; what++) {
            hash = 31 * hash + open(what);
        }
        hash = 31 * hash + bitsOf(likely(2, 3, 6), DOUBLE_FRACTION, DOUBLE_BIAS);
        hash = 31 * hash + bitsOf(meanPips(), FLOAT_FRACTION, FLOAT_BIAS);
        hash = 31 * hash + (kept ? 1 : 0);
        return hashText(hash);
    }

    private long hashTiles(long start) {
        long hash = start;
        for (int tile = 0; tile < TILES; tile++) {
            for (int what = 0; what <= LAST_OF_TILE; what++) {
                hash = 31 * hash + tile(tile, what);
            }
        }
        for (int place = 0; place < now.chain.size; place++) {
            for (int what = 0; what <= LAST_OF_CHAIN; what++) {
                hash = 31 * hash + chain(place, what);
            }
        }
        return hash;
    }

    private long hashHands(long start) {
        long hash = start;
        for (int hand = 0; hand < HANDS; hand++) {
            for (int what = 0; what <= LAST_OF_HAND; what++) {
                hash = 31 * hash + hand(hand, what);
            }
            hash = 31 * hash + deals(hand, 0);
            hash = 31 * hash + deals(hand, 1);
        }
        return hash;
    }

    private long hashKnown(long start) {
        long hash = start;
        for (int hand = 1; hand < HANDS; hand++) {
            hash = 31 * hash + having(0, hand, 0);
            hash = 31 * hash + having(0, hand, 13);
            hash = 31 * hash + having(0, hand, 27);
        }
        for (int hand = 0; hand < HANDS; hand++) {
            hash = 31 * hash + sure(1, hand);
        }
        return hash;
    }

    private long hashText(long start) {
        long hash = 31 * start + text.length;
        for (int place = 0; place < text.length; place++) {
            hash = 31 * hash + text.codeAt(place);
        }
        return hash;
    }

    // The language leaves no library call for the bits, so they are made by exact arithmetic.
    // Shares are 0, or from 1 by 399072960 up to 12: 64 halvings or doublings are more than enough.
    private static long bitsOf(double share, int fraction, int bias) {
        if (share <= 0.0) {
            return 0;
        }
        double rest = share;
        int exponent = 0;
        for (int step = 0; step < 64 && rest >= 2.0; step++) {
            rest = rest / 2.0;
            exponent++;
        }
        for (int step = 0; step < 64 && rest < 1.0; step++) {
            rest = rest * 2.0;
            exponent--;
        }
        long below = (long) ((rest - 1.0) * (double) (1L << fraction));
        return ((long) (exponent + bias) << fraction) + below;
    }

    private boolean canDoPart(int place) {
        switch (text.codeAt(place)) {
            case 'l':
                return now.layReason(now.turn, text.tileAt(place + 1), text.endAt(place + 3)) == 0;
            case 'p':
                return now.passReason(now.turn) == 0;
            default:
                return now.phase == ON;
        }
    }

    private void doPart(int place) {
        switch (text.codeAt(place)) {
            case 'l':
                now.layTile(now.turn, text.tileAt(place + 1), text.endAt(place + 3));
                break;
            case 'p':
                now.passTurn(now.turn);
                break;
            case 'c':
                now.handClock(text.codeAt(place + 1) == '+' ? 1 : 0);
                break;
            default:
                now.spendTime(text.numberAt(place + 1));
                break;
        }
    }

    private int giveTold() {
        int given = 0;
        int hand = NONE;
        int place = 0;
        while (place < text.length) {
            if (text.codeAt(place + 1) == ':') {
                hand = text.digitAt(place);
                place += 2;
            } else {
                int tile = text.tileAt(place);
                if (!now.canGive(hand, tile)) {
                    return given;
                }
                now.giveTile(hand, tile);
                given++;
                place += 3;
            }
        }
        return given;
    }

    private static boolean isHand(int hand) {
        return hand >= 0 && hand < HANDS;
    }

    private static boolean isTile(int tile) {
        return tile >= 0 && tile < TILES;
    }

    private static boolean isValue(int value) {
        return value >= 0 && value < VALUES;
    }

    private static boolean isSwitch(int number) {
        return number == 0 || number == 1;
    }

    /** Rows of numbers, read and written only where there is a place. */
    private static final class Rows {
        static int at(int[] row, int place) {
            return place >= 0 && place < row.length ? row[place] : NONE;
        }

        static void put(int[] row, int place, int number) {
            if (place >= 0 && place < row.length) {
                row[place] = number;
            }
        }

        static void add(int[] row, int place, int number) {
            if (place >= 0 && place < row.length) {
                row[place] += number;
            }
        }

        static void fill(int[] row, int number) {
            for (int place = 0; place < row.length; place++) {
                row[place] = number;
            }
        }

        static void copy(int[] from, int[] to) {
            System.arraycopy(from, 0, to, 0, Math.min(from.length, to.length));
        }
    }

    /** The hands round the table. */
    private static final class Seats {
        static int next(int hand) {
            return (hand + 1) % HANDS;
        }

        static int before(int hand) {
            return (hand + HANDS - 1) % HANDS;
        }

        static int team(int hand) {
            return hand % TEAMS;
        }
    }

    /** The tiles by their numbers. */
    private static final class Tile {
        private static final int[] LOW = {
            0, 0, 0, 0, 0, 0, 0, 1, 1, 1, 1, 1, 1, 2, 2, 2, 2, 2, 3, 3, 3, 3, 4, 4, 4, 5, 5, 6
        };
        private static final int[] HIGH = {
            0, 1, 2, 3, 4, 5, 6, 1, 2, 3, 4, 5, 6, 2, 3, 4, 5, 6, 3, 4, 5, 6, 4, 5, 6, 5, 6, 6
        };

        static int low(int tile) {
            return tile >= 0 && tile < LOW.length ? LOW[tile] : 0;
        }

        static int high(int tile) {
            return tile >= 0 && tile < HIGH.length ? HIGH[tile] : 0;
        }

        static int pips(int tile) {
            return tile >= 0 && tile < LOW.length && tile < HIGH.length ? LOW[tile] + HIGH[tile] : 0;
        }

        static boolean isDouble(int tile) {
            return low(tile) == high(tile);
        }

        static boolean shows(int tile, int value) {
            return low(tile) == value || high(tile) == value;
        }

        static int number(int one, int other) {
            int low = Math.min(one, other);
            int high = Math.max(one, other);
            return low * (2 * VALUES + 1 - low) / 2 + high - low;
        }

        static int weight(int tile, int value) {
            return low(tile) == high(tile) ? 2 * value : value;
        }

        static int fifth(int sum) {
            return sum > 0 && sum % 5 == 0 ? sum / 5 : 0;
        }
    }

    /** The row of laid tiles. */
    private static final class Chain {
        final int[] tiles = new int[TILES];
        final int[] lefts = new int[TILES];
        final int[] layers = new int[TILES];
        final int[] numbers = new int[TILES];
        int size;
        int leftEnd = NONE;
        int rightEnd = NONE;

        void copyFrom(Chain other) {
            Rows.copy(other.tiles, tiles);
            Rows.copy(other.lefts, lefts);
            Rows.copy(other.layers, layers);
            Rows.copy(other.numbers, numbers);
            size = other.size;
            leftEnd = other.leftEnd;
            rightEnd = other.rightEnd;
        }

        void clear() {
            size = 0;
            leftEnd = NONE;
            rightEnd = NONE;
        }

        int placeOf(int tile) {
            for (int place = 0; place < size; place++) {
                if (Rows.at(tiles, place) == tile) {
                    return place;
                }
            }
            return NONE;
        }

        int rightOf(int place) {
            return Tile.pips(Rows.at(tiles, place)) - Rows.at(lefts, place);
        }

        int endValue(int end) {
            return end == LEFT ? leftEnd : rightEnd;
        }

        // What the end counts in the open sum, with more than one tile.
        int endWeight(int end) {
            return Tile.weight(Rows.at(tiles, end == LEFT ? 0 : size - 1), endValue(end));
        }

        boolean fits(int tile, int end) {
            return size == 0 || Tile.shows(tile, endValue(end));
        }

        boolean fitsSome(int tile) {
            return size == 0 || Tile.shows(tile, leftEnd) || Tile.shows(tile, rightEnd);
        }

        int openSum() {
            if (size == 0) {
                return 0;
            }
            return size == 1 ? leftEnd + rightEnd : endWeight(LEFT) + endWeight(RIGHT);
        }

        int openSumWith(int tile, int end) {
            if (size == 0) {
                return Tile.pips(tile);
            }
            return Tile.weight(tile, freeValue(tile, end)) + endWeight(otherEnd(end));
        }

        // The value that shows at the end when the tile lies there.
        int freeValue(int tile, int end) {
            if (size == 0) {
                return end == LEFT ? Tile.low(tile) : Tile.high(tile);
            }
            return Tile.pips(tile) - endValue(end);
        }

        // The value that shows at the other end when the tile lies at this one.
        int farValue(int tile, int end) {
            return size == 0 ? freeValue(tile, otherEnd(end)) : endValue(otherEnd(end));
        }

        void add(int tile, int end, int layer) {
            if (size >= tiles.length) {
                return;
            }
            boolean first = size == 0;
            int free = freeValue(tile, first ? LEFT : end);
            int place = end == LEFT ? 0 : size;
            for (int from = size; from > place; from--) {
                shift(from);
            }
            Rows.put(tiles, place, tile);
            Rows.put(lefts, place, first || end == LEFT ? free : rightEnd);
            Rows.put(layers, place, layer);
            size++;
            Rows.put(numbers, place, size);
            leftEnd = first || end == LEFT ? free : leftEnd;
            rightEnd = rightOf(size - 1);
        }

        private void shift(int place) {
            Rows.put(tiles, place, Rows.at(tiles, place - 1));
            Rows.put(lefts, place, Rows.at(lefts, place - 1));
            Rows.put(layers, place, Rows.at(layers, place - 1));
            Rows.put(numbers, place, Rows.at(numbers, place - 1));
        }

        private static int otherEnd(int end) {
            return end == LEFT ? RIGHT : LEFT;
        }
    }

    /** All that a snapshot and a saved state hold. */
    private static final class Table {
        final Chain chain = new Chain();
        final int[] places = new int[TILES];
        final int[] times = new int[HANDS];
        final int[] lacks = new int[HANDS];
        final int[] passes = new int[HANDS];
        final int[] points = new int[TEAMS];
        int phase = AHEAD;
        int turn = NONE;
        int holder = NONE;
        int latest = NONE;
        int setting = FIRST_TIME;
        int passedInRow;
        int rounds;
        int lays;
        int allPasses;
        int handings;

        Table() {
            for (int tile = 0; tile < places.length; tile++) {
                places[tile] = IN_BOX;
            }
        }

        void copyFrom(Table other) {
            chain.copyFrom(other.chain);
            Rows.copy(other.places, places);
            Rows.copy(other.times, times);
            Rows.copy(other.lacks, lacks);
            Rows.copy(other.passes, passes);
            Rows.copy(other.points, points);
            phase = other.phase;
            turn = other.turn;
            holder = other.holder;
            latest = other.latest;
            setting = other.setting;
            passedInRow = other.passedInRow;
            rounds = other.rounds;
            lays = other.lays;
            allPasses = other.allPasses;
            handings = other.handings;
        }

        int placeOf(int tile) {
            return Rows.at(places, tile);
        }

        int sizeOf(int place) {
            int size = 0;
            for (int tile = 0; tile < places.length; tile++) {
                size += places[tile] == place ? 1 : 0;
            }
            return size;
        }

        int pipsOf(int hand) {
            int pips = 0;
            for (int tile = 0; tile < places.length; tile++) {
                pips += places[tile] == hand ? Tile.pips(tile) : 0;
            }
            return pips;
        }

        int doublesOf(int hand) {
            int doubles = 0;
            for (int tile = 0; tile < places.length; tile++) {
                doubles += places[tile] == hand && Tile.isDouble(tile) ? 1 : 0;
            }
            return doubles;
        }

        int lowestOf(int hand) {
            for (int tile = 0; tile < places.length; tile++) {
                if (places[tile] == hand) {
                    return tile;
                }
            }
            return NONE;
        }

        int fittingOf(int hand) {
            int fitting = 0;
            for (int tile = 0; tile < places.length; tile++) {
                fitting += places[tile] == hand && chain.fitsSome(tile) ? 1 : 0;
            }
            return fitting;
        }

        // How many tiles of the hand would fit an end if this tile lay at that one.
        int fittingWith(int hand, int laid, int end) {
            int near = chain.freeValue(laid, end);
            int far = chain.farValue(laid, end);
            int fitting = 0;
            for (int tile = 0; tile < places.length; tile++) {
                boolean fits = Tile.shows(tile, near) || Tile.shows(tile, far);
                fitting += places[tile] == hand && fits ? 1 : 0;
            }
            return fitting;
        }

        int tilesInHands() {
            int tiles = 0;
            for (int hand = 0; hand < HANDS; hand++) {
                tiles += sizeOf(hand);
            }
            return tiles;
        }

        int pipsInHands() {
            int pips = 0;
            for (int hand = 0; hand < HANDS; hand++) {
                pips += pipsOf(hand);
            }
            return pips;
        }

        boolean canGive(int hand, int tile) {
            return phase == AHEAD && placeOf(tile) == IN_BOX && sizeOf(hand) < HAND_LIMIT;
        }

        void giveTile(int hand, int tile) {
            Rows.put(places, tile, hand);
        }

        int dealTiles(int number) {
            int x = number;
            int dealt = 0;
            for (int hand = 0; hand < HANDS; hand++) {
                for (int size = sizeOf(hand); size < HAND_LIMIT; size++) {
                    x = (73 * x + 41) % 4096;
                    int left = sizeOf(IN_BOX);
                    if (left > 0) {
                        giveTile(hand, boxTile(x % left));
                        dealt++;
                    }
                }
            }
            return dealt;
        }

        private int boxTile(int rank) {
            int ahead = 0;
            for (int tile = 0; tile < places.length; tile++) {
                if (places[tile] == IN_BOX) {
                    if (ahead == rank) {
                        return tile;
                    }
                    ahead++;
                }
            }
            return NONE;
        }

        boolean canBegin() {
            return phase == AHEAD && tilesInHands() == HANDS * HAND_LIMIT;
        }

        void beginRound(int hand) {
            Rows.fill(times, setting);
            Rows.fill(lacks, 0);
            Rows.fill(passes, 0);
            phase = ON;
            turn = hand;
            holder = Seats.next(hand);
            latest = NONE;
            passedInRow = 0;
            rounds++;
        }

        int gatherTiles() {
            int before = sizeOf(IN_BOX);
            Rows.fill(places, IN_BOX);
            Rows.fill(lacks, 0);
            chain.clear();
            phase = AHEAD;
            latest = NONE;
            return TILES - before;
        }

        boolean isNeutral() {
            return phase == ON && holder != turn && holder != latest;
        }

        // Why the hand can not lay the tile there, 0 if it can.
        int layReason(int hand, int tile, int end) {
            if (phase != ON) {
                return 1;
            }
            if (hand != turn) {
                return 2;
            }
            if (placeOf(tile) != hand) {
                return 3;
            }
            if (!chain.fits(tile, end)) {
                return 4;
            }
            if (!isNeutral()) {
                return 5;
            }
            return Rows.at(times, hand) == 0 ? 6 : 0;
        }

        // Why the hand can not pass, 0 if it can.
        int passReason(int hand) {
            if (phase != ON) {
                return 1;
            }
            if (hand != turn) {
                return 2;
            }
            return Rows.at(times, hand) > 0 && fittingOf(hand) > 0 ? 3 : 0;
        }

        int gainOf(int hand, int tile, int end) {
            int gain = Tile.fifth(chain.openSumWith(tile, end));
            if (sizeOf(hand) == 1) {
                gain += (pipsInHands() - pipsOf(hand)) / 5;
            }
            return gain;
        }

        int layTile(int hand, int tile, int end) {
            int gain = gainOf(hand, tile, end);
            chain.add(tile, end, hand);
            Rows.put(places, tile, IN_CHAIN);
            Rows.add(points, Seats.team(hand), gain);
            latest = hand;
            passedInRow = 0;
            lays++;
            if (sizeOf(hand) == 0) {
                endRound();
            } else {
                turn = Seats.next(hand);
            }
            return gain;
        }

        int passTurn(int hand) {
            if (Rows.at(times, hand) > 0) {
                int ends = bit(chain.endValue(LEFT)) | bit(chain.endValue(RIGHT));
                Rows.put(lacks, hand, Rows.at(lacks, hand) | ends);
            }
            Rows.add(passes, hand, 1);
            allPasses++;
            passedInRow++;
            if (passedInRow >= HANDS) {
                payForBlock();
                endRound();
            } else {
                turn = Seats.next(hand);
            }
            return passedInRow;
        }

        private static int bit(int value) {
            return value >= 0 && value < VALUES ? 1 << value : 0;
        }

        private void payForBlock() {
            int first = pipsOf(0) + pipsOf(2);
            int second = pipsOf(1) + pipsOf(3);
            if (first < second) {
                Rows.add(points, 0, (second - first) / 5);
            } else {
                Rows.add(points, 1, (first - second) / 5);
            }
        }

        private void endRound() {
            phase = BEHIND;
            turn = NONE;
        }

        int handClock(int next) {
            holder = next == 1 ? Seats.next(holder) : Seats.before(holder);
            handings++;
            return holder;
        }

        int spendTime(int ticks) {
            int left = Math.max(0, Rows.at(times, turn) - ticks);
            Rows.put(times, turn, left);
            return left;
        }
    }

    /** The saved states: a ring of tables that are made once and used again. */
    private static final class History {
        private final Table[] saved = new Table[SAVED_LIMIT];
        private int oldest;
        int count;

        History() {
            for (int place = 0; place < saved.length; place++) {
                saved[place] = new Table();
            }
        }

        void save(Table state) {
            if (count >= SAVED_LIMIT) {
                oldest = (oldest + 1) % SAVED_LIMIT;
                count--;
            }
            Table slot = slotAt(count);
            if (slot != null) {
                slot.copyFrom(state);
                count++;
            }
        }

        void restore(Table state) {
            Table slot = slotAt(count - 1);
            if (slot != null) {
                state.copyFrom(slot);
                count--;
            }
        }

        private Table slotAt(int age) {
            int place = (oldest + age) % SAVED_LIMIT;
            return age >= 0 && place >= 0 && place < saved.length ? saved[place] : null;
        }
    }

    /** The buffer, and what may stand in it. */
    private static final class Text {
        // What a text may go on with: a new part, nothing but a separator, or what the name says.
        private static final int WRONG = -1;
        private static final int PART = 0;
        private static final int PART_END = 1;
        private static final int FIRST_FIGURE = 2;
        private static final int END_SIGN = 3;
        private static final int CLOCK_SIGN = 4;
        private static final int TICKS = 5;
        private static final int MORE_TICKS = 6;
        private static final int COLON = 7;
        // Behind the first figure f of a tile: SECOND_FIGURE and f together.
        private static final int SECOND_FIGURE = 10;

        private final int[] codes = new int[TEXT_LIMIT];
        int length;

        boolean isFull() {
            return length >= codes.length;
        }

        void add(int code) {
            if (length < codes.length) {
                Rows.put(codes, length, code);
                length++;
            }
        }

        void empty() {
            length = 0;
        }

        int codeAt(int place) {
            return place < length ? Rows.at(codes, place) : NONE;
        }

        int digitAt(int place) {
            return codeAt(place) - '0';
        }

        // From here on to nextPart: asked only of a text that has no error.
        int tileAt(int place) {
            return Tile.number(digitAt(place), digitAt(place + 1));
        }

        int endAt(int place) {
            return codeAt(place) == '<' ? LEFT : RIGHT;
        }

        int numberAt(int place) {
            boolean two = isBetween(codeAt(place + 1), '0', '9');
            return two ? 10 * digitAt(place) + digitAt(place + 1) : digitAt(place);
        }

        int nextPart(int from) {
            int place = from;
            while (place < length && codeAt(place) != ';') {
                place++;
            }
            return place + 1;
        }

        int firstWrong(int what) {
            int state = PART;
            for (int place = 0; place < length; place++) {
                state = next(what, state, codeAt(place));
                if (state == WRONG) {
                    return place;
                }
            }
            return length;
        }

        boolean isWhole(int what) {
            int state = PART;
            for (int place = 0; place < length; place++) {
                state = next(what, state, codeAt(place));
            }
            return state == PART_END || state == MORE_TICKS;
        }

        private static int next(int what, int state, int code) {
            return what == GAME ? nextOfGame(state, code) : nextOfTiles(state, code);
        }

        private static int nextOfGame(int state, int code) {
            if (state >= SECOND_FIGURE) {
                return isSecond(state, code) ? END_SIGN : WRONG;
            }
            switch (state) {
                case PART:
                    return nextOfPart(code);
                case PART_END:
                    return code == ';' ? PART : WRONG;
                case FIRST_FIGURE:
                    return behindFirst(code);
                case END_SIGN:
                    return code == '<' || code == '>' ? PART_END : WRONG;
                case CLOCK_SIGN:
                    return code == '+' || code == '-' ? PART_END : WRONG;
                case TICKS:
                    return isBetween(code, '1', '9') ? MORE_TICKS : WRONG;
                case MORE_TICKS:
                    if (isBetween(code, '0', '9')) {
                        return PART_END;
                    }
                    return code == ';' ? PART : WRONG;
                default:
                    return WRONG;
            }
        }

        private static int nextOfPart(int code) {
            switch (code) {
                case 'l':
                    return FIRST_FIGURE;
                case 'p':
                    return PART_END;
                case 'c':
                    return CLOCK_SIGN;
                case 't':
                    return TICKS;
                default:
                    return WRONG;
            }
        }

        private static int nextOfTiles(int state, int code) {
            if (state >= SECOND_FIGURE) {
                return isSecond(state, code) ? PART_END : WRONG;
            }
            switch (state) {
                case PART:
                    return isBetween(code, '0', '3') ? COLON : WRONG;
                case COLON:
                    return code == ':' ? FIRST_FIGURE : WRONG;
                case FIRST_FIGURE:
                    return behindFirst(code);
                case PART_END:
                    if (code == ',') {
                        return FIRST_FIGURE;
                    }
                    return code == ';' ? PART : WRONG;
                default:
                    return WRONG;
            }
        }

        private static int behindFirst(int code) {
            return isBetween(code, '0', '6') ? SECOND_FIGURE + code - '0' : WRONG;
        }

        private static boolean isSecond(int state, int code) {
            return isBetween(code, '0' + state - SECOND_FIGURE, '6');
        }

        private static boolean isBetween(int code, int from, int to) {
            return code >= from && code <= to;
        }
    }

    /** What one who looks into one hand alone can tell of the three others. */
    private static final class Secrets {
        private static final int OTHERS = 3;
        private static final int KINDS = 8;
        private static final int SIDE = HAND_LIMIT + 1;
        private static final int CHOICES = SECRET_LIMIT + 1;

        private final int[] needs = new int[OTHERS];
        // For each tile the mask of the others that can have it, NONE if it is in none of them.
        private final int[] kinds = new int[TILES];
        private final int[] sizes = new int[KINDS];
        private final long[] ways = new long[SIDE * SIDE];
        private final long[] choices = new long[CHOICES * CHOICES];
        private int looker;

        Secrets() {
            for (int place = 0; place < choices.length; place++) {
                int from = place / CHOICES;
                int take = place % CHOICES;
                if (take == 0) {
                    choices[place] = 1;
                } else if (take <= from && place - CHOICES - 1 >= 0) {
                    choices[place] = choices[place - CHOICES] + choices[place - CHOICES - 1];
                }
            }
        }

        void look(Table table, int from) {
            looker = from;
            for (int other = 0; other < OTHERS; other++) {
                Rows.put(needs, other, table.sizeOf((from + 1 + other) % HANDS));
            }
            Rows.fill(sizes, 0);
            for (int tile = 0; tile < TILES; tile++) {
                int place = table.placeOf(tile);
                boolean secret = place != from && place >= 0 && place < HANDS;
                int kind = secret ? kindOf(table, tile) : NONE;
                Rows.put(kinds, tile, kind);
                Rows.add(sizes, kind, 1);
            }
        }

        int kindAt(int tile) {
            return Rows.at(kinds, tile);
        }

        private int kindOf(Table table, int tile) {
            int values = 1 << Tile.low(tile) | 1 << Tile.high(tile);
            int kind = 0;
            for (int other = 0; other < OTHERS; other++) {
                int lacks = Rows.at(table.lacks, (looker + 1 + other) % HANDS);
                kind |= (lacks & values) == 0 ? 1 << other : 0;
            }
            return kind;
        }

        long tileByTile() {
            for (int place = 0; place < ways.length; place++) {
                ways[place] = 0;
            }
            putWays(0, 0, 1);
            int given = 0;
            for (int tile = 0; tile < kinds.length; tile++) {
                if (kinds[tile] != NONE) {
                    given++;
                    giveOne(kinds[tile], given);
                }
            }
            return waysOf(Rows.at(needs, 0), Rows.at(needs, 1));
        }

        // The ways are kept by the tiles of the first and the second one; the third one has the rest, and
        // never more than it needs. Downwards, so that what is still to be read is of one tile less.
        private void giveOne(int kind, int given) {
            for (int one = Math.min(Rows.at(needs, 0), given); one >= 0; one--) {
                int rest = given - one;
                int least = Math.max(0, rest - Rows.at(needs, 2));
                for (int two = Math.min(Rows.at(needs, 1), rest); two >= least; two--) {
                    long sum = 0;
                    sum += (kind & 1) != 0 ? waysOf(one - 1, two) : 0;
                    sum += (kind & 2) != 0 ? waysOf(one, two - 1) : 0;
                    sum += (kind & 4) != 0 ? waysOf(one, two) : 0;
                    putWays(one, two, sum);
                }
            }
        }

        private long waysOf(int one, int two) {
            int place = one * SIDE + two;
            boolean there = one >= 0 && two >= 0 && two < SIDE && place < ways.length;
            return there && place >= 0 ? ways[place] : 0;
        }

        private void putWays(int one, int two, long sum) {
            int place = one * SIDE + two;
            if (one >= 0 && two >= 0 && two < SIDE && place >= 0 && place < ways.length) {
                ways[place] = sum;
            }
        }

        // Kinds of one hand leave no choice; those of two are tried in all ways; of the kind of all three
        // the first and the second one take what they still need, and what is left is the need of the third.
        long byKinds() {
            if (Rows.at(sizes, 0) > 0) {
                return 0;
            }
            int one = Rows.at(needs, 0) - Rows.at(sizes, 1);
            int two = Rows.at(needs, 1) - Rows.at(sizes, 2);
            int shared = Rows.at(sizes, 3);
            long sum = 0;
            for (int taken = 0; taken <= shared && taken <= one; taken++) {
                sum += choose(shared, taken) * byTwoKinds(one - taken, two - shared + taken);
            }
            return sum;
        }

        private long byTwoKinds(int one, int two) {
            int first = Rows.at(sizes, 5);
            int second = Rows.at(sizes, 6);
            int all = Rows.at(sizes, 7);
            long sum = 0;
            for (int mine = 0; mine <= first && mine <= one; mine++) {
                for (int yours = 0; yours <= second && yours <= two; yours++) {
                    long shares = choose(first, mine) * choose(second, yours);
                    int left = all - one + mine;
                    sum += shares * choose(all, one - mine) * choose(left, two - yours);
                }
            }
            return sum;
        }

        private long choose(int from, int take) {
            if (from < 0 || from >= CHOICES || take < 0 || take > from) {
                return 0;
            }
            int place = from * CHOICES + take;
            return place < choices.length ? choices[place] : 0;
        }

        // In how many deals another hand has one tile of this kind: it is given, and the rest is dealt.
        long withKind(int hand, int kind) {
            int other = (hand - looker + HANDS - 1) % HANDS;
            if (kind < 0 || other >= OTHERS || (kind >> other & 1) == 0 || Rows.at(needs, other) <= 0) {
                return 0;
            }
            Rows.add(sizes, kind, -1);
            Rows.add(needs, other, -1);
            long deals = byKinds();
            Rows.add(sizes, kind, 1);
            Rows.add(needs, other, 1);
            return deals;
        }

        // Tiles of one kind are in the hand in as many deals, so each kind is asked once.
        int sureTiles(int hand, long all) {
            int sure = 0;
            for (int kind = 1; kind < sizes.length; kind++) {
                if (sizes[kind] > 0 && withKind(hand, kind) == all) {
                    sure += sizes[kind];
                }
            }
            return sure;
        }
    }

    /** The play with open hands, for few tiles. */
    private static final class OpenHands {
        private final int[] tiles = new int[OPEN_LIMIT];
        private final int[] owners = new int[OPEN_LIMIT];
        // By depth, for both ends: the value there, and what it counts in the open sum.
        private final int[] values = new int[2 * (OPEN_LIMIT + 1)];
        private final int[] weights = new int[2 * (OPEN_LIMIT + 1)];
        private int size;
        int gain;
        int bestTile;
        int bestEnd;

        // So few tiles are in the hands only late in a round: the chain has more than one tile.
        void look(Table table) {
            size = 0;
            for (int each = 0; each < TILES && size < OPEN_LIMIT; each++) {
                int place = table.placeOf(each);
                if (place >= 0 && place < HANDS) {
                    Rows.put(tiles, size, each);
                    Rows.put(owners, size, place);
                    size++;
                }
            }
            for (int side = LEFT; side <= RIGHT; side++) {
                Rows.put(values, side, table.chain.endValue(side));
                Rows.put(weights, side, table.chain.endWeight(side));
            }
            bestTile = NONE;
            bestEnd = NONE;
            int first = best(0, table.turn, table.passedInRow, (1 << size) - 1);
            gain = Seats.team(table.turn) == 0 ? first : -first;
        }

        // The points of the team 0 less those of the team 1 up to the end of the round.
        private int best(int depth, int turn, int passed, int rest) {
            int hand = turn;
            int inRow = passed;
            while (inRow < HANDS && !canLay(depth, hand, rest)) {
                hand = Seats.next(hand);
                inRow++;
            }
            if (inRow >= HANDS || depth >= OPEN_LIMIT) {
                return afterBlock(rest);
            }
            int sign = Seats.team(hand) == 0 ? 1 : -1;
            boolean found = false;
            int most = 0;
            for (int option = 0; option < 2 * size; option++) {
                int place = option / 2;
                int side = option % 2;
                if (canLayAt(depth, hand, rest, place, side)) {
                    int value = sign * afterLay(depth, hand, rest, place, side);
                    if (!found || value > most) {
                        found = true;
                        most = value;
                        if (depth == 0 && hand == turn) {
                            bestTile = Rows.at(tiles, place);
                            bestEnd = side;
                        }
                    }
                }
            }
            return sign * most;
        }

        private boolean canLay(int depth, int hand, int rest) {
            for (int option = 0; option < 2 * size; option++) {
                if (canLayAt(depth, hand, rest, option / 2, option % 2)) {
                    return true;
                }
            }
            return false;
        }

        private boolean canLayAt(int depth, int hand, int rest, int place, int side) {
            return (rest >> place & 1) != 0 && Rows.at(owners, place) == hand
                && Tile.shows(Rows.at(tiles, place), Rows.at(values, 2 * depth + side));
        }

        private int afterLay(int depth, int hand, int rest, int place, int side) {
            int laid = Rows.at(tiles, place);
            int free = Tile.pips(laid) - Rows.at(values, 2 * depth + side);
            int far = 2 * depth + 1 - side;
            int weight = Tile.weight(laid, free);
            int deeper = 2 * (depth + 1);
            Rows.put(values, deeper + side, free);
            Rows.put(weights, deeper + side, weight);
            Rows.put(values, deeper + 1 - side, Rows.at(values, far));
            Rows.put(weights, deeper + 1 - side, Rows.at(weights, far));

            int points = Tile.fifth(weight + Rows.at(weights, far));
            int left = rest & ~(1 << place);
            int sign = Seats.team(hand) == 0 ? 1 : -1;
            if (sizeOf(hand, left) == 0) {
                return sign * (points + (teamPips(0, left) + teamPips(1, left)) / 5);
            }
            return sign * points + best(depth + 1, Seats.next(hand), 0, left);
        }

        private int sizeOf(int hand, int rest) {
            int count = 0;
            for (int place = 0; place < size; place++) {
                count += (rest >> place & 1) != 0 && Rows.at(owners, place) == hand ? 1 : 0;
            }
            return count;
        }

        private int teamPips(int team, int rest) {
            int pips = 0;
            for (int place = 0; place < size; place++) {
                boolean counts = (rest >> place & 1) != 0 && Rows.at(owners, place) % TEAMS == team;
                pips += counts ? Tile.pips(Rows.at(tiles, place)) : 0;
            }
            return pips;
        }

        private int afterBlock(int rest) {
            return (teamPips(1, rest) - teamPips(0, rest)) / 5;
        }
    }

    /** The longest chain of the tiles of one hand. */
    private static final class Trail {
        private final int[] tiles = new int[HAND_LIMIT];

        int longest(Table table, int hand) {
            int size = 0;
            for (int tile = 0; tile < TILES && size < HAND_LIMIT; tile++) {
                if (table.placeOf(tile) == hand) {
                    Rows.put(tiles, size, tile);
                    size++;
                }
            }
            int best = 0;
            for (int value = 0; value < VALUES && best < size; value++) {
                best = Math.max(best, longestFrom(tiles, value, (1 << size) - 1, size));
            }
            return best;
        }

        // Static, as the language asks of a method that calls itself; how many tiles are left bounds the depth.
        private static int longestFrom(int[] tiles, int value, int rest, int left) {
            int best = 0;
            for (int place = 0; place < tiles.length && best < left; place++) {
                int tile = Rows.at(tiles, place);
                if ((rest >> place & 1) != 0 && Tile.shows(tile, value)) {
                    int others = rest & ~(1 << place);
                    best = Math.max(best, 1 + longestFrom(tiles, Tile.pips(tile) - value, others, left - 1));
                }
            }
            return best;
        }
    }
}
