import java.util.NoSuchElementException;

/**
 * Triple systems: triples of points in which no two points stand together twice.
 * Sets of points are bit masks all through (bit p for point p). Every row is made with the object,
 * so that no call makes anything but the exceptions that it throws.
 */
public final class TripleTrains {
    public static final int NO_ERROR = 0;
    public static final int SYNTAX = 1;
    public static final int OUT_OF_RANGE = 2;
    public static final int COVERED = 3;

    private static final int NONE = -1;
    private static final int MIN_POINTS = 3;
    private static final int MAX_POINTS = 15;
    /** 15 points have 105 pairs, and a triple covers three of them. */
    private static final int MAX_TRIPLES = 35;
    /** 315 twos of triples meet at most; each stands in two quadrilaterals at most, which have six such twos. */
    private static final int MAX_QUADS = 105;
    /** 13 points beside the two, 4 at least in each cycle. */
    private static final int MAX_CYCLES = 3;
    private static final int MAX_LENGTH = 12;
    /** Three cycles for each of 105 pairs. */
    private static final int MAX_TRADES = 315;
    /** Three of 15 points. */
    private static final int MAX_SETS = 455;
    private static final int MAX_INPUT = 600;
    private static final int APPENDED = 20;
    private static final int MAX_UNDO = 10;
    private static final int MAX_OPEN_PAIRS = 30;
    /** The triples that cover so many pairs. */
    private static final int MAX_ADDED = 10;
    private static final int MAX_APART = 5;
    private static final int MAX_TIMES = 20;
    private static final int MIN_PERFECT = 7;
    /** Seven triples hold a point at most: 7 * 3 signs and 6 spaces. */
    private static final int MAX_OUTPUT = 27;

    private final SetupText text = new SetupText();
    private final Board board = new Board();
    private final Board spare = new Board();
    private final Tally tally = new Tally();
    private final History history = new History();
    private final Quads quads = new Quads();
    private final Cycles around = new Cycles();
    private final Trades traded = new Trades();
    private final Trains trains = new Trains();
    private final Exchange exchange = new Exchange();
    private final byte[] output = new byte[MAX_OUTPUT];
    private int outputLength;

    public TripleTrains() {
        board.reset(MIN_POINTS);
    }

    // ---- the setup text

    public int appendInput(int a, int b, int c, int d, int e) {
        if (!text.hasRoom()) {
            return NONE;
        }
        text.append(a);
        text.append(b);
        text.append(c);
        text.append(d);
        text.append(e);
        return text.length;
    }

    public boolean truncateInput(int length) {
        if (length < 0 || length > text.length) {
            return false;
        }
        text.length = length;
        return true;
    }

    public int loadSystem() {
        boolean good = text.read(spare);
        text.length = 0;
        if (!good) {
            return NONE;
        }
        board.copy(spare);
        tally.reset();
        history.forgetAll();
        outputLength = 0;
        settle();
        return board.size;
    }

    public int errorCode() {
        return text.code;
    }

    public int errorOffset() {
        return text.offset;
    }

    // ---- points, pairs and triples

    public int count(int what) throws IllegalArgumentException {
        switch (what) {
            case 0: return board.points;
            case 1: return board.size;
            case 2: return board.openPairs();
            case 3: return quads.size;
            case 4: return tally.quads;
            case 5: return tally.cycles;
            case 6: return tally.replaced;
            case 7: return history.depth;
            default: throw new IllegalArgumentException("no such number");
        }
    }

    public boolean isComplete() {
        return board.openPairs() == 0;
    }

    public int triple(int triple, int index) throws IndexOutOfBoundsException, IllegalArgumentException {
        requireTriple(triple);
        if (index < 0 || index > 2) {
            throw new IllegalArgumentException("no such index");
        }
        return Sets.member(board.setOf(triple), index);
    }

    public int find(int x, int y, int z) throws IndexOutOfBoundsException, IllegalArgumentException {
        requireThree(x, y, z);
        return board.numberOf(Sets.three(x, y, z));
    }

    public int third(int a, int b) throws IndexOutOfBoundsException, IllegalArgumentException {
        requireTwo(a, b);
        return board.thirdOf(a, b);
    }

    public int degree(int point) throws IndexOutOfBoundsException {
        requirePoint(point);
        return board.meeting(1 << point, 1);
    }

    public int uncovered(int index) throws IndexOutOfBoundsException {
        if (index < 0) {
            throw new IndexOutOfBoundsException("a negative index");
        }
        return board.openPair(index);
    }

    public int reason(int x, int y, int z) throws IndexOutOfBoundsException, IllegalArgumentException {
        requireThree(x, y, z);
        int set = Sets.three(x, y, z);
        if (board.holds(set)) {
            return 1;
        }
        // Each pair that is covered has a triple of its own: one that covers two would hold all three points.
        int coveredPairs = board.meeting(set, 2);
        return coveredPairs == 0 ? 0 : 1 + coveredPairs;
    }

    public int add(int x, int y, int z)
            throws IndexOutOfBoundsException, IllegalArgumentException, IllegalStateException {
        requireThree(x, y, z);
        int set = Sets.three(x, y, z);
        if (!board.takes(set)) {
            throw new IllegalStateException("a pair is covered");
        }
        remember();
        board.put(set);
        settle();
        return board.numberOf(set);
    }

    public int remove(int triple) throws IndexOutOfBoundsException {
        requireTriple(triple);
        remember();
        board.drop(board.setOf(triple));
        settle();
        return board.size;
    }

    public int develop(int x, int y, int z)
            throws IndexOutOfBoundsException, IllegalArgumentException, IllegalStateException {
        requireThree(x, y, z);
        spare.copy(board);
        int added = spare.putAllTurns(Sets.three(x, y, z));
        if (added == NONE) {
            throw new IllegalStateException("a pair would be covered twice");
        }
        remember();
        board.copy(spare);
        settle();
        return added;
    }

    // ---- filling

    public int fill() {
        remember();
        int added = board.putAllThatFit();
        settle();
        return added;
    }

    public int completions() {
        if (board.openPairs() > MAX_OPEN_PAIRS) {
            return -2;
        }
        spare.copy(board);
        return completionsOf(spare, 0);
    }

    public int tightest() {
        return board.tightestPair();
    }

    // ---- quadrilaterals

    public int quad(int quad, int what) throws IndexOutOfBoundsException, IllegalArgumentException {
        requireQuad(quad);
        if (what < 0 || what > 9) {
            throw new IllegalArgumentException("no such number");
        }
        return what < 4 ? quads.tripleOf(quad, what) : Sets.member(quads.pointsOf(quad), what - 4);
    }

    public int opposite(int quad, int point) throws IndexOutOfBoundsException {
        requireQuad(quad);
        requirePoint(point);
        return quads.oppositeOf(board, quad, point);
    }

    public int quadsAt(int point) throws IndexOutOfBoundsException {
        requirePoint(point);
        return quads.holdingPoint(point);
    }

    public int quadsOf(int triple) throws IndexOutOfBoundsException {
        requireTriple(triple);
        return quads.holdingAny(1L << triple);
    }

    public int switchQuad(int quad) throws IndexOutOfBoundsException {
        requireQuad(quad);
        remember();
        exchangeQuad(quad);
        return quads.size;
    }

    public int wouldHave(int quad) throws IndexOutOfBoundsException {
        requireQuad(quad);
        return quadsBehindSwitchOf(quad);
    }

    public int bestSwitch(boolean most) {
        int best = NONE;
        int bestLeft = 0;
        for (int q = 0; q < quads.size; q++) {
            quads.planSwitch(board, q, exchange);
            int left = quadsBehindExchange();
            if (best == NONE || (most ? left > bestLeft : left < bestLeft)) {
                best = q;
                bestLeft = left;
            }
        }
        return best;
    }

    public int descend(int times) throws IllegalArgumentException {
        if (times < 1 || times > MAX_TIMES) {
            throw new IllegalArgumentException("not 1 to 20 times");
        }
        remember();
        int done = 0;
        while (done < times) {
            int best = bestSwitch(false);
            if (best == NONE || quadsBehindSwitchOf(best) >= quads.size) {
                break;
            }
            exchangeQuad(best);
            done++;
        }
        return done;
    }

    // ---- cycles

    public int cycles(int a, int b) throws IndexOutOfBoundsException, IllegalArgumentException {
        requireTwo(a, b);
        around.gather(board, a, b);
        return around.size;
    }

    public int cycleLength(int a, int b, int cycle)
            throws IndexOutOfBoundsException, IllegalArgumentException, NoSuchElementException {
        requireCycle(a, b, cycle);
        return around.lengthOf(cycle);
    }

    public int cyclePoint(int a, int b, int cycle, int index)
            throws IndexOutOfBoundsException, IllegalArgumentException, NoSuchElementException {
        requireCycle(a, b, cycle);
        if (index < 0 || index >= around.lengthOf(cycle)) {
            throw new NoSuchElementException("no such index");
        }
        return around.pointAt(cycle, index);
    }

    public int switchCycle(int a, int b, int cycle)
            throws IndexOutOfBoundsException, IllegalArgumentException, NoSuchElementException {
        requireCycle(a, b, cycle);
        remember();
        around.planSwitch(cycle, exchange);
        exchange.applyTo(board);
        tally.cycles++;
        tally.replaced += exchange.size;
        settle();
        return exchange.size;
    }

    public int wouldHaveBy(int a, int b, int cycle)
            throws IndexOutOfBoundsException, IllegalArgumentException, NoSuchElementException {
        requireCycle(a, b, cycle);
        around.planSwitch(cycle, exchange);
        return quadsBehindExchange();
    }

    public int cyclesOf(int length) {
        int found = 0;
        for (int a = 0; a < board.points; a++) {
            for (int b = a + 1; b < board.points; b++) {
                around.gather(board, a, b);
                found += around.countOfLength(length);
            }
        }
        return found;
    }

    public int trades(int volume) {
        traded.gather(board, around, volume);
        return traded.size;
    }

    public long trade(int volume, int index) throws NoSuchElementException {
        traded.gather(board, around, volume);
        if (index < 0 || index >= traded.size) {
            throw new NoSuchElementException("no such trade");
        }
        return traded.maskAt(index);
    }

    public int perfectPairs() {
        if (board.points < MIN_PERFECT) {
            return 0;
        }
        int found = 0;
        for (int a = 0; a < board.points; a++) {
            for (int b = a + 1; b < board.points; b++) {
                if (isPerfect(a, b)) {
                    found++;
                }
            }
        }
        return found;
    }

    public boolean agrees() {
        traded.gather(board, around, 4);
        if (traded.size != quads.size) {
            return false;
        }
        for (int i = 0; i < traded.size; i++) {
            if (!quads.hasMask(traded.maskAt(i))) {
                return false;
            }
        }
        return true;
    }

    // ---- trains

    public int train(int x, int y, int z)
            throws IndexOutOfBoundsException, IllegalArgumentException, IllegalStateException {
        requireTrain(x, y, z);
        return Sets.digits(board.trainFrom(Sets.three(x, y, z)));
    }

    public int trainsTo(int x, int y, int z)
            throws IndexOutOfBoundsException, IllegalArgumentException, IllegalStateException {
        requireTrain(x, y, z);
        trains.gather(board);
        return trains.arrivalsAt(Trains.rankOf(Sets.three(x, y, z)));
    }

    public int tail(int x, int y, int z)
            throws IndexOutOfBoundsException, IllegalArgumentException, IllegalStateException {
        requireTrain(x, y, z);
        trains.gather(board);
        return trains.tailFrom(Trains.rankOf(Sets.three(x, y, z)));
    }

    public int roundOf(int x, int y, int z)
            throws IndexOutOfBoundsException, IllegalArgumentException, IllegalStateException {
        requireTrain(x, y, z);
        trains.gather(board);
        return trains.roundFrom(Trains.rankOf(Sets.three(x, y, z)));
    }

    public int trainProfile(int many) throws IllegalStateException {
        requireComplete();
        trains.gather(board);
        return trains.setsWithArrivals(many);
    }

    public int rounds() throws IllegalStateException {
        requireComplete();
        trains.gather(board);
        return trains.countRounds();
    }

    // ---- turns

    public boolean isTurned(int k) {
        return board.turnKeeps(board.turnWithin(k));
    }

    public int leastTurn() {
        return board.leastKeptTurn();
    }

    public int orbits() {
        int by = board.leastKeptTurn();
        long seen = 0L;
        int found = 0;
        for (int t = 0; t < board.size; t++) {
            if ((seen >> t & 1L) == 0L) {
                seen |= board.orbitOf(t, by);
                found++;
            }
        }
        return found;
    }

    public int turn(int k) {
        remember();
        int by = board.turnWithin(k);
        spare.reset(board.points);
        int kept = 0;
        for (int t = 0; t < board.size; t++) {
            int turned = Sets.turned(board.setOf(t), by, board.points);
            spare.put(turned);
            kept += board.holds(turned) ? 1 : 0;
        }
        board.copy(spare);
        settle();
        return kept;
    }

    // ---- shares and sets of points

    public double meanQuads() {
        return board.size == 0 ? 0.0 : (double) (4 * quads.size) / (double) board.size;
    }

    public float coverage() {
        int pairs = board.pairs();
        return pairs == 0 ? 0.0f : (float) (pairs - board.openPairs()) / (float) pairs;
    }

    public int closure(int set) throws IllegalArgumentException {
        if ((set & ~board.allPoints()) != 0) {
            throw new IllegalArgumentException("other bits than those of points");
        }
        return board.closed(set);
    }

    public int subsystems() {
        int all = board.allPoints();
        int found = 0;
        for (int set = 0; set < all; set++) {
            if (Integer.bitCount(set) > 3 && board.isClosed(set)) {
                found++;
            }
        }
        return found;
    }

    public int independent() {
        int all = board.allPoints();
        int best = 0;
        for (int set = 0; set <= all; set++) {
            if (Integer.bitCount(set) > Integer.bitCount(best) && !board.hasTripleWithin(set)) {
                best = set;
            }
        }
        return best;
    }

    public int apart(int triple) throws IndexOutOfBoundsException {
        requireTriple(triple);
        return board.size - board.meeting(board.setOf(triple), 1);
    }

    public int mostApart() {
        return mostApartFrom(board, 0, 0, 0);
    }

    // ---- changes of many triples

    public int swap(int a, int b) throws IndexOutOfBoundsException, IllegalArgumentException {
        requireTwo(a, b);
        remember();
        spare.reset(board.points);
        int fresh = 0;
        for (int t = 0; t < board.size; t++) {
            int swapped = Sets.exchanged(board.setOf(t), a, b);
            spare.put(swapped);
            fresh += board.holds(swapped) ? 0 : 1;
        }
        board.copy(spare);
        settle();
        return fresh;
    }

    public int clear(int point) throws IndexOutOfBoundsException {
        requirePoint(point);
        remember();
        int removed = board.dropMeeting(1 << point, 1);
        settle();
        return removed;
    }

    public int inTheWay(int x, int y, int z) throws IndexOutOfBoundsException, IllegalArgumentException {
        requireThree(x, y, z);
        return board.meeting(Sets.three(x, y, z), 2);
    }

    public int force(int x, int y, int z)
            throws IndexOutOfBoundsException, IllegalArgumentException, IllegalStateException {
        requireThree(x, y, z);
        int set = Sets.three(x, y, z);
        if (board.holds(set)) {
            throw new IllegalStateException("the triple is in the system");
        }
        remember();
        int removed = board.dropMeeting(set, 2);
        board.put(set);
        settle();
        return removed;
    }

    // ---- output

    public int printAt(int point) throws IndexOutOfBoundsException {
        requirePoint(point);
        outputLength = 0;
        for (int t = 0; t < board.size; t++) {
            if (Sets.has(board.setOf(t), point)) {
                writeTriple(board.setOf(t));
            }
        }
        return outputLength;
    }

    public int outputByte(int index) {
        return index < 0 || index >= outputLength || index >= output.length ? NONE : output[index];
    }

    // ---- what was

    public int undo() {
        if (!history.takeBack(board, tally)) {
            return NONE;
        }
        settle();
        return history.depth;
    }

    public int saveState() {
        history.save(board, tally);
        return board.size;
    }

    public int restoreState() throws IllegalStateException {
        if (!history.restore(board, tally)) {
            throw new IllegalStateException("no state is saved");
        }
        settle();
        return board.size;
    }

    // ---- what calls require

    private void requirePoint(int point) {
        if (!board.isPoint(point)) {
            throw new IndexOutOfBoundsException("no such point");
        }
    }

    private void requireTwo(int a, int b) {
        requirePoint(a);
        requirePoint(b);
        if (a == b) {
            throw new IllegalArgumentException("the same point twice");
        }
    }

    private void requireThree(int x, int y, int z) {
        requirePoint(x);
        requirePoint(y);
        requirePoint(z);
        if (x == y || x == z || y == z) {
            throw new IllegalArgumentException("the same point twice");
        }
    }

    private void requireTriple(int triple) {
        if (triple < 0 || triple >= board.size) {
            throw new IndexOutOfBoundsException("no such triple");
        }
    }

    private void requireQuad(int quad) {
        if (quad < 0 || quad >= quads.size) {
            throw new IndexOutOfBoundsException("no such quadrilateral");
        }
    }

    /** Leaves the cycles of a and b in their rows for the caller. */
    private void requireCycle(int a, int b, int cycle) {
        requireTwo(a, b);
        around.gather(board, a, b);
        if (cycle < 0 || cycle >= around.size) {
            throw new NoSuchElementException("no such cycle");
        }
    }

    private void requireComplete() {
        if (board.openPairs() != 0) {
            throw new IllegalStateException("the system is not complete");
        }
    }

    private void requireTrain(int x, int y, int z) {
        requireThree(x, y, z);
        requireComplete();
    }

    // ---- what calls share

    private void remember() {
        history.push(board, tally);
    }

    /** What is derived from the third points is made anew behind each change, not on the way. */
    private void settle() {
        board.list();
        quads.gather(board);
    }

    private void exchangeQuad(int quad) {
        quads.planSwitch(board, quad, exchange);
        exchange.applyTo(board);
        tally.quads++;
        tally.replaced += exchange.size;
        settle();
    }

    private int quadsBehindSwitchOf(int quad) {
        quads.planSwitch(board, quad, exchange);
        return quadsBehindExchange();
    }

    /** Only the quadrilaterals that lose a triple, and those that have a new one, make a difference. */
    private int quadsBehindExchange() {
        spare.copy(board);
        int lost = quads.holdingAny(exchange.goneNumbers);
        return quads.size - lost + exchange.applyTo(spare);
    }

    private boolean isPerfect(int a, int b) {
        int others = board.points - (board.thirdOf(a, b) == NONE ? 2 : 3);
        around.gather(board, a, b);
        return around.size == 1 && around.lengthOf(0) == others;
    }

    private void writeTriple(int set) {
        if (outputLength > 0) {
            write(' ');
        }
        for (int i = 0; i < 3; i++) {
            int point = Sets.member(set, i);
            write(point < 10 ? '0' + point : 'a' + point - 10);
        }
    }

    private void write(int sign) {
        if (outputLength < output.length) {
            output[outputLength] = (byte) sign;
            outputLength++;
        }
    }

    /** Begins with the tightest pair, as few triples can cover it; leaves the board as it was. */
    private static int completionsOf(Board work, int depth) {
        int pair = work.tightestPair();
        if (pair == NONE) {
            return 1;
        }
        if (depth >= MAX_ADDED) {
            return 0;
        }
        int a = pair >> 4;
        int b = pair & 15;
        int thirds = work.openOf(a) & work.openOf(b);
        int found = 0;
        for (int c = 0; c < work.points; c++) {
            if (Sets.has(thirds, c)) {
                work.put(Sets.three(a, b, c));
                found += completionsOf(work, depth + 1);
                work.drop(Sets.three(a, b, c));
            }
        }
        return found;
    }

    private static int mostApartFrom(Board board, int from, int used, int depth) {
        if (depth >= MAX_APART) {
            return 0;
        }
        int best = 0;
        for (int t = from; t < board.size; t++) {
            int set = board.setOf(t);
            if ((set & used) == 0) {
                best = Math.max(best, 1 + mostApartFrom(board, t + 1, used | set, depth + 1));
            }
        }
        return best;
    }

    // ---- the classes inside

    /** Sets of points as bit masks. */
    private static final class Sets {
        static int three(int x, int y, int z) {
            return 1 << x | 1 << y | 1 << z;
        }

        static boolean has(int set, int point) {
            return (set >> point & 1) == 1;
        }

        /** The point at an index among those of the set, rising; NONE if there are not so many. */
        static int member(int set, int index) {
            int rest = set;
            for (int i = 0; i < index; i++) {
                rest &= rest - 1;
            }
            return rest == 0 ? NONE : Integer.bitCount((rest & -rest) - 1);
        }

        static int turned(int set, int by, int points) {
            return (set << by | set >> points - by) & (1 << points) - 1;
        }

        static int exchanged(int set, int a, int b) {
            return has(set, a) == has(set, b) ? set : set ^ (1 << a | 1 << b);
        }

        static int digits(int set) {
            return member(set, 2) << 8 | member(set, 1) << 4 | member(set, 0);
        }
    }

    /**
     * A system. Its third points and open pairs change with each put and drop;
     * the row of triples and their numbers are those of the latest list(), and none behind reset and copy.
     */
    private static final class Board {
        int points;
        int size;
        private final int[] thirds = new int[MAX_POINTS * MAX_POINTS];
        private final int[] numbers = new int[MAX_POINTS * MAX_POINTS];
        /** For each point the set of those with which it is not covered. */
        private final int[] open = new int[MAX_POINTS];
        private final int[] sets = new int[MAX_TRIPLES];

        void reset(int howMany) {
            points = Math.max(MIN_POINTS, Math.min(howMany, MAX_POINTS));
            size = 0;
            for (int i = 0; i < thirds.length; i++) {
                thirds[i] = NONE;
            }
            for (int p = 0; p < open.length; p++) {
                open[p] = p < points ? allPoints() & ~(1 << p) : 0;
            }
        }

        void copy(Board other) {
            points = other.points;
            size = 0;
            System.arraycopy(other.thirds, 0, thirds, 0, thirds.length);
            System.arraycopy(other.open, 0, open, 0, open.length);
        }

        boolean isPoint(int point) {
            return point >= 0 && point < points;
        }

        int allPoints() {
            return (1 << points) - 1;
        }

        /** The turn from 0 on that leads from each point to where any turn leads. */
        int turnWithin(int k) {
            return points < 1 ? 0 : Math.floorMod(k, points);
        }

        int pairs() {
            return points * (points - 1) / 2;
        }

        int thirdOf(int a, int b) {
            return a >= 0 && a < points && b >= 0 && b < points ? thirds[a * MAX_POINTS + b] : NONE;
        }

        int openOf(int point) {
            return isPoint(point) ? open[point] : 0;
        }

        int setOf(int triple) {
            return triple >= 0 && triple < size ? sets[triple] : 0;
        }

        /** The number of the triple that covers a pair. */
        int numberCovering(int a, int b) {
            boolean covered = isPoint(a) && isPoint(b) && thirdOf(a, b) != NONE;
            return covered ? numbers[a * MAX_POINTS + b] : NONE;
        }

        int numberOf(int set) {
            return holds(set) ? numberCovering(Sets.member(set, 0), Sets.member(set, 1)) : NONE;
        }

        boolean holds(int set) {
            int z = Sets.member(set, 2);
            return z != NONE && thirdOf(Sets.member(set, 0), Sets.member(set, 1)) == z;
        }

        boolean takes(int set) {
            int x = Sets.member(set, 0);
            int y = Sets.member(set, 1);
            return (openOf(x) & set) == (set & ~(1 << x)) && (openOf(y) & set) == (set & ~(1 << y));
        }

        void put(int set) {
            int x = Sets.member(set, 0);
            int y = Sets.member(set, 1);
            int z = Sets.member(set, 2);
            join(x, y, z);
            join(x, z, y);
            join(y, z, x);
        }

        void drop(int set) {
            int x = Sets.member(set, 0);
            int y = Sets.member(set, 1);
            int z = Sets.member(set, 2);
            part(x, y);
            part(x, z);
            part(y, z);
        }

        private void join(int a, int b, int thirdPoint) {
            if (isPoint(a) && isPoint(b)) {
                thirds[a * MAX_POINTS + b] = thirdPoint;
                thirds[b * MAX_POINTS + a] = thirdPoint;
                open[a] &= ~(1 << b);
                open[b] &= ~(1 << a);
            }
        }

        private void part(int a, int b) {
            if (isPoint(a) && isPoint(b)) {
                thirds[a * MAX_POINTS + b] = NONE;
                thirds[b * MAX_POINTS + a] = NONE;
                open[a] |= 1 << b;
                open[b] |= 1 << a;
            }
        }

        void list() {
            size = 0;
            for (int x = 0; x < points; x++) {
                for (int y = x + 1; y < points; y++) {
                    int z = thirdOf(x, y);
                    if (z > y) {
                        number(x, y, z);
                    }
                }
            }
        }

        private void number(int x, int y, int z) {
            if (size < sets.length) {
                sets[size] = Sets.three(x, y, z);
                numberPair(x, y);
                numberPair(x, z);
                numberPair(y, z);
                size++;
            }
        }

        private void numberPair(int a, int b) {
            if (isPoint(a) && isPoint(b)) {
                numbers[a * MAX_POINTS + b] = size;
                numbers[b * MAX_POINTS + a] = size;
            }
        }

        /** Puts a triple and its turns, each once: their number, or NONE if a pair stood in the way. */
        int putAllTurns(int set) {
            int added = 0;
            for (int by = 0; by < points; by++) {
                int turned = Sets.turned(set, by, points);
                if (by > 0 && turned == set) {
                    break;
                }
                if (!takes(turned)) {
                    return NONE;
                }
                put(turned);
                added++;
            }
            return added;
        }

        /** One pass is enough: a triple that does not fit does not fit later either. */
        int putAllThatFit() {
            int added = 0;
            for (int x = 0; x < points; x++) {
                for (int y = x + 1; y < points; y++) {
                    for (int z = y + 1; z < points; z++) {
                        if (takes(Sets.three(x, y, z))) {
                            put(Sets.three(x, y, z));
                            added++;
                        }
                    }
                }
            }
            return added;
        }

        int openPairs() {
            int ends = 0;
            for (int p = 0; p < points; p++) {
                ends += Integer.bitCount(openOf(p));
            }
            return ends / 2;
        }

        /** 16 * a + b for the pair at an index among those that are not covered; NONE if there are not so many. */
        int openPair(int index) {
            int before = 0;
            for (int a = 0; a < points; a++) {
                for (int b = a + 1; b < points; b++) {
                    if (Sets.has(openOf(a), b)) {
                        if (before == index) {
                            return 16 * a + b;
                        }
                        before++;
                    }
                }
            }
            return NONE;
        }

        int tightestPair() {
            int best = NONE;
            int fewest = MAX_POINTS;
            for (int a = 0; a < points; a++) {
                for (int b = a + 1; b < points; b++) {
                    int fitting = Integer.bitCount(openOf(a) & openOf(b));
                    if (Sets.has(openOf(a), b) && fitting < fewest) {
                        best = 16 * a + b;
                        fewest = fitting;
                    }
                }
            }
            return best;
        }

        /** How many triples have so many points, or more, in common with a set. */
        int meeting(int set, int common) {
            int found = 0;
            for (int t = 0; t < size; t++) {
                if (Integer.bitCount(setOf(t) & set) >= common) {
                    found++;
                }
            }
            return found;
        }

        int dropMeeting(int set, int common) {
            int dropped = 0;
            for (int t = 0; t < size; t++) {
                if (Integer.bitCount(setOf(t) & set) >= common) {
                    drop(setOf(t));
                    dropped++;
                }
            }
            return dropped;
        }

        int trainFrom(int set) {
            int x = Sets.member(set, 0);
            int y = Sets.member(set, 1);
            int z = Sets.member(set, 2);
            return Sets.three(thirdOf(y, z), thirdOf(x, z), thirdOf(x, y));
        }

        boolean turnKeeps(int by) {
            for (int t = 0; t < size; t++) {
                if (!holds(Sets.turned(setOf(t), by, points))) {
                    return false;
                }
            }
            return true;
        }

        int leastKeptTurn() {
            for (int by = 1; by < points; by++) {
                if (turnKeeps(by)) {
                    return by;
                }
            }
            return points;
        }

        /** The numbers of the triples to which a turn that keeps the system leads from one, as a bit mask. */
        long orbitOf(int triple, int by) {
            long orbit = 0L;
            int set = setOf(triple);
            for (int step = 0; step < points; step++) {
                orbit |= 1L << numberOf(set);
                set = Sets.turned(set, by, points);
            }
            return orbit;
        }

        boolean isClosed(int set) {
            for (int t = 0; t < size; t++) {
                if (Integer.bitCount(setOf(t) & set) == 2) {
                    return false;
                }
            }
            return true;
        }

        /** Each round but the last brings a point in, so there are no more rounds than points. */
        int closed(int set) {
            int grown = set;
            for (int round = 0; round < MAX_POINTS && !isClosed(grown); round++) {
                for (int t = 0; t < size; t++) {
                    if (Integer.bitCount(setOf(t) & grown) == 2) {
                        grown |= setOf(t);
                    }
                }
            }
            return grown;
        }

        boolean hasTripleWithin(int set) {
            for (int t = 0; t < size; t++) {
                if ((setOf(t) & ~set) == 0) {
                    return true;
                }
            }
            return false;
        }
    }

    /** Triples that a switch takes away, and those that it brings in their places. */
    private static final class Exchange {
        int size;
        /** The numbers of the triples that go, as a bit mask. */
        long goneNumbers;
        private final int[] gone = new int[MAX_LENGTH];
        private final int[] come = new int[MAX_LENGTH];

        void begin(long numbersThatGo) {
            size = 0;
            goneNumbers = numbersThatGo;
        }

        void plan(int out, int in) {
            if (size < MAX_LENGTH) {
                gone[size] = out;
                come[size] = in;
                size++;
            }
        }

        /** The number of quadrilaterals with new triples: each is counted when the last of these comes. */
        int applyTo(Board board) {
            for (int i = 0; i < size && i < gone.length; i++) {
                board.drop(gone[i]);
            }
            int made = 0;
            for (int i = 0; i < size && i < come.length; i++) {
                board.put(come[i]);
                made += Quads.countWith(board, come[i]);
            }
            return made;
        }
    }

    /** The quadrilaterals of a system, in their order. */
    private static final class Quads {
        int size;
        /** For each the numbers of its triples, as a bit mask. */
        private final long[] masks = new long[MAX_QUADS];
        private final int[] unions = new int[MAX_QUADS];

        /**
         * Each point stands in two of the four triples, so the fourth holds just the points
         * that stand in one of the other three.
         */
        void gather(Board board) {
            size = 0;
            for (int i = 0; i < board.size; i++) {
                for (int j = i + 1; j < board.size; j++) {
                    boolean meet = (board.setOf(i) & board.setOf(j)) != 0;
                    int two = board.setOf(i) ^ board.setOf(j);
                    for (int k = j + 1; k < board.size && meet; k++) {
                        int rest = two ^ board.setOf(k);
                        int l = Integer.bitCount(rest) == 3 ? board.numberOf(rest) : NONE;
                        if (l > k) {
                            keep(i, j, k, l, board.setOf(i) | board.setOf(j) | rest);
                        }
                    }
                }
            }
        }

        private void keep(int i, int j, int k, int l, int union) {
            if (size < MAX_QUADS) {
                masks[size] = 1L << i | 1L << j | 1L << k | 1L << l;
                unions[size] = union;
                size++;
            }
        }

        /** The bits of a mask rise as the numbers do. */
        int tripleOf(int quad, int index) {
            long rest = maskOf(quad);
            for (int i = 0; i < index; i++) {
                rest &= rest - 1L;
            }
            return rest == 0L ? NONE : Long.bitCount((rest & -rest) - 1L);
        }

        int pointsOf(int quad) {
            return quad >= 0 && quad < size ? unions[quad] : 0;
        }

        /** The two triples that hold a point hold all of the six but its opposite. */
        int oppositeOf(Board board, int quad, int point) {
            if (!Sets.has(pointsOf(quad), point)) {
                return NONE;
            }
            int rest = pointsOf(quad);
            for (int i = 0; i < 4; i++) {
                int set = board.setOf(tripleOf(quad, i));
                if (Sets.has(set, point)) {
                    rest &= ~set;
                }
            }
            return Sets.member(rest, 0);
        }

        int holdingPoint(int point) {
            int found = 0;
            for (int q = 0; q < size; q++) {
                if (Sets.has(pointsOf(q), point)) {
                    found++;
                }
            }
            return found;
        }

        int holdingAny(long triples) {
            int found = 0;
            for (int q = 0; q < size; q++) {
                if ((maskOf(q) & triples) != 0L) {
                    found++;
                }
            }
            return found;
        }

        private long maskOf(int quad) {
            return quad >= 0 && quad < size ? masks[quad] : 0L;
        }

        boolean hasMask(long mask) {
            for (int q = 0; q < size; q++) {
                if (maskOf(q) == mask) {
                    return true;
                }
            }
            return false;
        }

        /** The opposites of the points of a triple are the three of the six that are not in it. */
        void planSwitch(Board board, int quad, Exchange exchange) {
            exchange.begin(maskOf(quad));
            for (int i = 0; i < 4; i++) {
                int set = board.setOf(tripleOf(quad, i));
                exchange.plan(set, pointsOf(quad) & ~set);
            }
        }

        /**
         * Counts those of which a triple is one; needs no list of the triples.
         * In each of them, one more triple stands at the point x of the triple, and the other two
         * lead from y and z to one point.
         */
        static int countWith(Board board, int set) {
            int x = Sets.member(set, 0);
            int y = Sets.member(set, 1);
            int z = Sets.member(set, 2);
            int found = 0;
            for (int a = 0; a < board.points; a++) {
                int b = board.thirdOf(x, a);
                if (b != NONE && a != y && a != z) {
                    int meet = board.thirdOf(y, a);
                    found += meet != NONE && meet == board.thirdOf(z, b) ? 1 : 0;
                }
            }
            return found;
        }
    }

    /** The cycles of two points, in their order: their rows stand one behind the other. */
    private static final class Cycles {
        int size;
        private int first;
        private int second;
        private final int[] begins = new int[MAX_CYCLES + 1];
        private final int[] row = new int[2 * MAX_POINTS];
        private final long[] steps = new long[2 * MAX_POINTS];

        void gather(Board board, int a, int b) {
            size = 0;
            first = a;
            second = b;
            int c = board.thirdOf(a, b);
            int seen = 1 << a | 1 << b | (c == NONE ? 0 : 1 << c);
            for (int x = 0; x < board.points; x++) {
                if (!Sets.has(seen, x)) {
                    int length = walk(board, x);
                    if (length > 0) {
                        seen |= keep(length);
                    }
                }
            }
        }

        /** Writes the way from a point behind the rows that are kept: its length, 0 if it is no cycle. */
        private int walk(Board board, int from) {
            int begin = beginOf(size);
            int at = from;
            for (int length = 0; length < MAX_POINTS && begin + length < row.length; length++) {
                int by = length % 2 == 0 ? first : second;
                row[begin + length] = at;
                steps[begin + length] = 1L << board.numberCovering(by, at);
                at = board.thirdOf(by, at);
                if (at == NONE) {
                    return 0;
                }
                if (at == from && by == second) {
                    return length + 1;
                }
            }
            return 0;
        }

        /** Keeps the way that was walked last: the set of its points. */
        private int keep(int length) {
            int set = 0;
            if (size < MAX_CYCLES) {
                begins[size + 1] = begins[size] + length;
                size++;
                for (int i = 0; i < length; i++) {
                    set |= 1 << pointAt(size - 1, i);
                }
            }
            return set;
        }

        private int beginOf(int cycle) {
            return cycle >= 0 && cycle < begins.length ? begins[cycle] : 0;
        }

        int lengthOf(int cycle) {
            return cycle >= 0 && cycle < size ? beginOf(cycle + 1) - beginOf(cycle) : 0;
        }

        int pointAt(int cycle, int index) {
            int at = beginOf(cycle) + index;
            return at >= 0 && at < row.length ? row[at] : NONE;
        }

        int countOfLength(int length) {
            int found = 0;
            for (int c = 0; c < size; c++) {
                if (lengthOf(c) == length) {
                    found++;
                }
            }
            return found;
        }

        /** The numbers of the triples that the switch of a cycle replaces, as a bit mask. */
        long tradeOf(int cycle) {
            long mask = 0L;
            int end = beginOf(cycle + 1);
            for (int at = beginOf(cycle); at < end && at < steps.length; at++) {
                mask |= steps[at];
            }
            return mask;
        }

        void planSwitch(int cycle, Exchange exchange) {
            exchange.begin(tradeOf(cycle));
            int length = lengthOf(cycle);
            for (int i = 0; i < length; i++) {
                int here = pointAt(cycle, i);
                int next = pointAt(cycle, i + 1 < length ? i + 1 : 0);
                int with = i % 2 == 0 ? first : second;
                int instead = i % 2 == 0 ? second : first;
                exchange.plan(Sets.three(with, here, next), Sets.three(instead, here, next));
            }
        }
    }

    /** The trades of a volume, rising. */
    private static final class Trades {
        int size;
        private final long[] masks = new long[MAX_TRADES];

        void gather(Board board, Cycles around, int volume) {
            size = 0;
            for (int a = 0; a < board.points; a++) {
                for (int b = a + 1; b < board.points; b++) {
                    around.gather(board, a, b);
                    gatherAmong(around, volume);
                }
            }
        }

        private void gatherAmong(Cycles around, int volume) {
            for (int c = 0; c < around.size; c++) {
                if (around.lengthOf(c) == volume) {
                    insert(around.tradeOf(c));
                }
            }
        }

        private void insert(long mask) {
            int at = 0;
            while (at < size && maskAt(at) < mask) {
                at++;
            }
            if (size >= masks.length || at < size && maskAt(at) == mask) {
                return;
            }
            for (int i = size; i > at; i--) {
                masks[i] = masks[i - 1];
            }
            masks[at] = mask;
            size++;
        }

        long maskAt(int index) {
            return index >= 0 && index < size ? masks[index] : 0L;
        }
    }

    /** The train of a complete system over all sets of three points, each by its rank. */
    private static final class Trains {
        private int size;
        private final int[] nexts = new int[MAX_SETS];
        private final int[] arrivals = new int[MAX_SETS];
        private final int[] marks = new int[MAX_SETS];

        void gather(Board board) {
            size = 0;
            for (int i = 0; i < MAX_SETS; i++) {
                arrivals[i] = 0;
                marks[i] = 0;
            }
            for (int z = 2; z < board.points; z++) {
                for (int y = 1; y < z; y++) {
                    for (int x = 0; x < y; x++) {
                        lead(rankOf(board.trainFrom(Sets.three(x, y, z))));
                    }
                }
            }
        }

        /** Sets come in the order of their ranks: by the greatest point, then the middle one, then the smallest. */
        private void lead(int to) {
            if (size < nexts.length && to >= 0 && to < arrivals.length) {
                nexts[size] = to;
                arrivals[to]++;
                size++;
            }
        }

        static int rankOf(int set) {
            int x = Sets.member(set, 0);
            int y = Sets.member(set, 1);
            int z = Sets.member(set, 2);
            return z * (z - 1) * (z - 2) / 6 + y * (y - 1) / 2 + x;
        }

        int arrivalsAt(int rank) {
            return rank >= 0 && rank < size ? arrivals[rank] : 0;
        }

        private int nextOf(int rank) {
            return rank >= 0 && rank < size ? nexts[rank] : 0;
        }

        private int markOf(int rank) {
            return rank >= 0 && rank < size ? marks[rank] : 0;
        }

        private void mark(int rank, int sign) {
            if (rank >= 0 && rank < size) {
                marks[rank] = sign;
            }
        }

        /** Marks the round to which the train comes: its size. */
        int roundFrom(int rank) {
            int at = rank;
            for (int step = 0; step < size; step++) {
                at = nextOf(at);
            }
            int length = 0;
            while (length < size && markOf(at) == 0) {
                mark(at, 1);
                at = nextOf(at);
                length++;
            }
            return length;
        }

        int tailFrom(int rank) {
            roundFrom(rank);
            int at = rank;
            int steps = 0;
            while (steps < size && markOf(at) == 0) {
                at = nextOf(at);
                steps++;
            }
            return steps;
        }

        int setsWithArrivals(int many) {
            int found = 0;
            for (int i = 0; i < size; i++) {
                if (arrivalsAt(i) == many) {
                    found++;
                }
            }
            return found;
        }

        int countRounds() {
            int found = 0;
            for (int i = 0; i < size; i++) {
                if (endsOnItself(i, i + 1)) {
                    found++;
                }
            }
            return found;
        }

        /** Tells whether a walk through sets without a mark ends at one of its own: it found a new round then. */
        private boolean endsOnItself(int rank, int sign) {
            int at = rank;
            int steps = 0;
            while (steps < size && markOf(at) == 0) {
                mark(at, sign);
                at = nextOf(at);
                steps++;
            }
            return steps > 0 && markOf(at) == sign;
        }
    }

    /** What was switched. */
    private static final class Tally {
        int quads;
        int cycles;
        int replaced;

        void reset() {
            quads = 0;
            cycles = 0;
            replaced = 0;
        }

        void copy(Tally other) {
            quads = other.quads;
            cycles = other.cycles;
            replaced = other.replaced;
        }
    }

    /** A system and its tally as they were. */
    private static final class Snapshot {
        private int points;
        private int size;
        private final int[] sets = new int[MAX_TRIPLES];
        private final Tally tally = new Tally();

        void keep(Board board, Tally now) {
            points = board.points;
            size = board.size;
            for (int t = 0; t < sets.length; t++) {
                sets[t] = board.setOf(t);
            }
            tally.copy(now);
        }

        void giveBack(Board board, Tally now) {
            board.reset(points);
            for (int t = 0; t < size && t < sets.length; t++) {
                board.put(sets[t]);
            }
            now.copy(tally);
        }
    }

    /** The changes that can be undone, the latest one last, and the saved state. */
    private static final class History {
        int depth;
        private final Snapshot[] past = new Snapshot[MAX_UNDO];
        private final Snapshot saved = new Snapshot();
        private boolean isSaved;

        History() {
            for (int i = 0; i < past.length; i++) {
                past[i] = new Snapshot();
            }
        }

        void push(Board board, Tally tally) {
            if (depth == past.length) {
                forgetOldest();
            }
            if (depth < past.length && past[depth] != null) {
                past[depth].keep(board, tally);
                depth++;
            }
        }

        private void forgetOldest() {
            Snapshot oldest = past[0];
            for (int i = 1; i < past.length; i++) {
                past[i - 1] = past[i];
            }
            past[past.length - 1] = oldest;
            depth = past.length - 1;
        }

        boolean takeBack(Board board, Tally tally) {
            if (depth < 1 || depth > past.length || past[depth - 1] == null) {
                return false;
            }
            depth--;
            past[depth].giveBack(board, tally);
            return true;
        }

        void save(Board board, Tally tally) {
            saved.keep(board, tally);
            isSaved = true;
        }

        boolean restore(Board board, Tally tally) {
            if (!isSaved) {
                return false;
            }
            saved.giveBack(board, tally);
            depth = 0;
            return true;
        }

        void forgetAll() {
            depth = 0;
            isSaved = false;
        }
    }

    /** The input buffer, and what reads a setup from it. */
    private static final class SetupText {
        private static final int END = 0;
        private static final int WORD = 1;
        private static final int NUMBER = 2;
        private static final int SEMICOLON = 3;
        private static final int STRANGE = 4;

        int length;
        int code = NO_ERROR;
        int offset = NONE;
        private final byte[] bytes = new byte[MAX_INPUT];
        private int at;
        private int kind;
        private int start;
        private int value;

        boolean hasRoom() {
            return length + APPENDED <= MAX_INPUT;
        }

        void append(int four) {
            for (int shift = 24; shift >= 0 && length < bytes.length; shift -= 8) {
                bytes[length] = (byte) (four >> shift);
                length++;
            }
        }

        /** The board is of use only if this answers true. */
        boolean read(Board into) {
            code = NO_ERROR;
            offset = NONE;
            at = 0;
            advance();
            boolean good = readPoints(into);
            for (int i = 0; i < MAX_INPUT && good && kind != END; i++) {
                good = readStatement(into);
            }
            return good;
        }

        private boolean readPoints(Board into) {
            if (!isWord("points")) {
                return fail(SYNTAX);
            }
            advance();
            if (kind != NUMBER) {
                return fail(SYNTAX);
            }
            if (value < MIN_POINTS || value > MAX_POINTS) {
                return fail(OUT_OF_RANGE);
            }
            into.reset(value);
            advance();
            if (kind != SEMICOLON) {
                return fail(SYNTAX);
            }
            advance();
            return true;
        }

        private boolean readStatement(Board into) {
            boolean developed = isWord("develop");
            if (!developed && !isWord("triple")) {
                return fail(SYNTAX);
            }
            advance();
            int set = 0;
            for (int i = 0; i < 3; i++) {
                if (kind != NUMBER) {
                    return fail(SYNTAX);
                }
                if (!into.isPoint(value) || Sets.has(set, value)) {
                    return fail(OUT_OF_RANGE);
                }
                set |= 1 << value;
                advance();
            }
            if (kind != SEMICOLON) {
                return fail(SYNTAX);
            }
            if (!into.takes(set) || developed && into.putAllTurns(set) == NONE) {
                return fail(COVERED);
            }
            if (!developed) {
                into.put(set);
            }
            advance();
            return true;
        }

        private boolean fail(int why) {
            code = why;
            offset = start;
            return false;
        }

        private void advance() {
            while (at < length && (byteAt(at) == ' ' || byteAt(at) == '\n')) {
                at++;
            }
            start = at;
            int sign = byteAt(at);
            if (sign == NONE) {
                kind = END;
            } else if (isLetter(sign)) {
                readWord();
            } else if (isDigit(sign)) {
                readNumber();
            } else {
                kind = sign == ';' ? SEMICOLON : STRANGE;
                at++;
            }
        }

        private void readWord() {
            kind = WORD;
            while (at < length && isLetter(byteAt(at))) {
                at++;
            }
        }

        private void readNumber() {
            value = 0;
            while (at < length && isDigit(byteAt(at))) {
                value = value * 10 + byteAt(at) - '0';
                at++;
            }
            kind = at - start <= 2 ? NUMBER : STRANGE;
        }

        private boolean isWord(String word) {
            if (kind != WORD || at - start != word.length()) {
                return false;
            }
            for (int i = 0; i < word.length(); i++) {
                if (byteAt(start + i) != word.charAt(i)) {
                    return false;
                }
            }
            return true;
        }

        private int byteAt(int index) {
            return index >= 0 && index < length && index < bytes.length ? bytes[index] & 255 : NONE;
        }

        private static boolean isLetter(int sign) {
            return sign >= 'a' && sign <= 'z';
        }

        private static boolean isDigit(int sign) {
            return sign >= '0' && sign <= '9';
        }
    }
}
