import java.util.function.Supplier;

/** The edges of trains and turns, and of promises 39 to 48. */
public final class TrainEdgesTest extends Edges {
    private static final String ONE = "points 3;triple 0 1 2;";

    private static Supplier<TripleTrains> of(String text) { return () -> load(text); }

    /** Made of digits to the base 16, as the train tells it. */
    private static int[] points(int digits) { return new int[] {digits & 15, digits >> 4 & 15, digits >> 8}; }

    /** Follows the train until a set comes again: the steps before it came first, and those between. */
    private static int[] tailAndRound(TripleTrains x, int set) {
        java.util.List<Integer> way = new java.util.ArrayList<>();
        int at = set;
        while (!way.contains(at)) {
            way.add(at);
            int[] p = points(at);
            at = x.train(p[0], p[1], p[2]);
        }
        return new int[] {way.indexOf(at), way.size() - way.indexOf(at)};
    }

    /** All sets of three of thirteen points, as digits to the base 16. */
    private static java.util.List<Integer> setsOfThirteen() {
        java.util.List<Integer> all = new java.util.ArrayList<>();
        for (int c = 2; c < 13; c++) for (int b = 1; b < c; b++) for (int a = 0; a < b; a++) all.add(c * 256 + b * 16 + a);
        return all;
    }

    // ---- terms

    @Says(at = 0, line = "the train leads from any set of three points {x, y, z} to the set of the third points of y and z, of x and z, and of x and y")
    private static void trainLeads() {
        TripleTrains x = load(Made.THIRTEEN);
        for (int c = 2; c < 13; c++) {
            int a = x.third(1, c);
            int b = x.third(0, c);
            int d = x.third(0, 1);
            if (c == d) continue;
            int want = 0;
            for (int p = 12; p >= 0; p--) if (p == a || p == b || p == d) want = want * 16 + p;
            due("from 0 1 " + c, want, x.train(0, 1, c));
            due("in another order", want, x.train(c, 1, 0));
        }
    }

    @Says(at = 0, line = "from a triple of the system it leads to this triple itself.")
    private static void fromTriple() {
        TripleTrains x = load(Made.THIRTEEN);
        for (int t = 0; t < 26; t++) {
            int[] p = {x.triple(t, 0), x.triple(t, 1), x.triple(t, 2)};
            due("triple " + t, p[2] * 256 + p[1] * 16 + p[0], x.train(p[0], p[1], p[2]));
        }
    }

    @Says(at = 0, line = "one comes to sets that repeat: they are the round of the set")
    private static void roundsRepeat() {
        TripleTrains x = load(Made.NINE);
        int[] first = {0, 1, 3};
        int[] p = first;
        for (int step = 0; step < 3; step++) {
            due("three sets", 3, x.roundOf(p[0], p[1], p[2]));
            int to = x.train(p[0], p[1], p[2]);
            is("another set", step == 2, to == 0x310);
            p = points(to);
        }
    }

    @Says(at = 0, line = "the tail is the number of steps until a set of the round is reached for the first time.")
    private static void tailsEnd() {
        TripleTrains x = load(Made.THIRTEEN);
        int longest = 0;
        int calls = 0;
        for (int c = 2; c < 13; c++) {
            int[] p = {0, 1, c};
            int tail = x.tail(0, 1, c);
            longest = Math.max(longest, tail);
            for (int left = tail; left > 0; left--) {
                if (calls++ > 150) break;
                due("steps left", left, x.tail(p[0], p[1], p[2]));
                p = points(x.train(p[0], p[1], p[2]));
            }
            if (calls <= 150) due("in the round", 0, x.tail(p[0], p[1], p[2]));
        }
        is("some take more than one step", true, longest > 1);
    }

    // ---- promises 39 to 42

    @Says(at = 39, line = "Returns its three points as digits to the base 16, the greatest one as the highest digit.")
    private static void digits() {
        due("the least set", 0x210, load(ONE).train(2, 0, 1));
        TripleTrains x = load(Made.FIFTEEN);
        int third = x.third(13, 14);
        due("the greatest points", 0xed0 + third, x.train(third, 14, 13));
        TripleTrains y = load("points 15;triple 0 13 14;");
        y.fill();
        is("complete for the test", true, y.isComplete());
        due("0 as the lowest digit", 0xed0, y.train(14, 0, 13));
    }

    @Says(at = 39, line = "Throws IndexOutOfBoundsException if there is no such point")
    private static void trainNoPoint() { Refused.noPoint(TripleTrains::train); }

    @Says(at = 39, line = "Throws IllegalArgumentException if two of them are the same")
    private static void trainSame() { Refused.samePoints(TripleTrains::train); }

    private static void refusedUnlessComplete(Refused.Ask3 ask) {
        for (Supplier<TripleTrains> made : java.util.List.<Supplier<TripleTrains>>of(Made::open, Made::three, Made::bare))
            for (int[] p : new int[][] {{0, 1, 2}, {2, 1, 0}})
                Refused.with(STATE, made, "not complete", x -> ask.of(x, p[0], p[1], p[2]));
        Refused.with(STATE, Made::open, "a triple of it", x -> ask.of(x, 0, 1, 3));
        Refused.with(STATE, Made::open, "the triple that lacks", x -> ask.of(x, 3, 4, 6));
        Refused.taken(STATE, Made::full, "complete", x -> ask.of(x, 3, 4, 6));
        Refused.taken(STATE, Made::full, "complete", x -> ask.of(x, 0, 1, 2));
        Refused.taken(STATE, of(ONE), "complete", x -> ask.of(x, 0, 1, 2));
    }

    @Says(at = 39, line = "Throws IllegalStateException if the system is not complete")
    private static void trainNotComplete() { refusedUnlessComplete(TripleTrains::train); }

    @Says(at = 40, line = "Returns the number of sets.")
    private static void trainsTo() {
        due("the only set", 1, load(ONE).trainsTo(0, 1, 2));
        due("a triple of seven", 5, Made.full().trainsTo(6, 4, 3));
        due("no triple", 0, Made.full().trainsTo(6, 5, 4));
        due("a triple of fifteen", 13, load(Made.FIFTEEN).trainsTo(0, 5, 10));
        due("no triple of fifteen", 0, load(Made.FIFTEEN).trainsTo(0, 5, 11));
        for (int c = 2; c < 9; c++) due("of nine, 0 1 " + c, 1, load(Made.NINE).trainsTo(0, 1, c));
        due("the last set of nine", 1, load(Made.NINE).trainsTo(8, 7, 6));
        TripleTrains x = load(Made.FIFTEEN);
        x.swap(14, x.third(12, 13));
        for (int time = 0; time < 3; time++) due("the last set of fifteen, asked again", 13, x.trainsTo(12, 13, 14));
        TripleTrains leading = load(Made.THIRTEEN);
        TripleTrains asked = load(Made.THIRTEEN);
        int[] from = new int[4096];
        for (int set : setsOfThirteen()) {
            int[] p = points(set);
            from[leading.train(p[0], p[1], p[2])]++;
        }
        for (int set : setsOfThirteen()) {
            int[] p = points(set);
            due("to " + set, from[set], asked.trainsTo(p[1], p[2], p[0]));
        }
    }

    @Says(at = 40, line = "Throws IndexOutOfBoundsException if there is no such point")
    private static void trainsToNoPoint() { Refused.noPoint(TripleTrains::trainsTo); }

    @Says(at = 40, line = "Throws IllegalArgumentException if two of them are the same")
    private static void trainsToSame() { Refused.samePoints(TripleTrains::trainsTo); }

    @Says(at = 40, line = "Throws IllegalStateException if the system is not complete")
    private static void trainsToNotComplete() { refusedUnlessComplete(TripleTrains::trainsTo); }

    @Says(at = 41, line = "Returns the number of steps.")
    private static void tails() {
        due("the only set", 0, load(ONE).tail(0, 1, 2));
        due("a triple", 0, Made.full().tail(0, 1, 3));
        due("one step to a triple", 1, Made.full().tail(0, 1, 2));
        due("the last points", 1, load(Made.FIFTEEN).tail(14, 13, load(Made.FIFTEEN).third(13, 14) == 12 ? 11 : 12));
        due("in its round already", 0, load(Made.NINE).tail(0, 1, 3));
        for (int set : setsOfThirteen()) {
            TripleTrains x = load(Made.THIRTEEN);
            int[] p = points(set);
            due("of thirteen, " + set, tailAndRound(x, set)[0], x.tail(p[1], p[0], p[2]));
        }
    }

    @Says(at = 41, line = "Throws IndexOutOfBoundsException if there is no such point")
    private static void tailNoPoint() { Refused.noPoint(TripleTrains::tail); }

    @Says(at = 41, line = "Throws IllegalArgumentException if two of them are the same")
    private static void tailSame() { Refused.samePoints(TripleTrains::tail); }

    @Says(at = 41, line = "Throws IllegalStateException if the system is not complete")
    private static void tailNotComplete() { refusedUnlessComplete(TripleTrains::tail); }

    @Says(at = 42, line = "Returns the number of sets.")
    private static void roundSizes() {
        due("the only set", 1, load(ONE).roundOf(0, 1, 2));
        due("a triple", 1, Made.full().roundOf(0, 1, 3));
        due("behind a step", 1, Made.full().roundOf(0, 1, 2));
        due("three", 3, load(Made.NINE).roundOf(0, 1, 3));
        due("a triple of nine", 1, load(Made.NINE).roundOf(0, 1, 2));
        for (int set : setsOfThirteen()) {
            TripleTrains x = load(Made.THIRTEEN);
            int[] p = points(set);
            due("of thirteen, " + set, tailAndRound(x, set)[1], x.roundOf(p[1], p[0], p[2]));
        }
    }

    @Says(at = 42, line = "Throws IndexOutOfBoundsException if there is no such point")
    private static void roundNoPoint() { Refused.noPoint(TripleTrains::roundOf); }

    @Says(at = 42, line = "Throws IllegalArgumentException if two of them are the same")
    private static void roundSame() { Refused.samePoints(TripleTrains::roundOf); }

    @Says(at = 42, line = "Throws IllegalStateException if the system is not complete")
    private static void roundNotComplete() { refusedUnlessComplete(TripleTrains::roundOf); }

    // ---- promises 43 and 44

    @Says(at = 43, line = "Returns the number of sets.")
    private static void profiles() {
        int sets = 0;
        int steps = 0;
        TripleTrains x = load(Made.THIRTEEN);
        for (int many = 0; many <= 286; many++) {
            sets += x.trainProfile(many);
            steps += many * x.trainProfile(many);
        }
        due("all sets", 286, sets);
        TripleTrains y = load(Made.THIRTEEN);
        for (int many = 0; many <= 286; many++) steps -= y.trainProfile(many);
        due("one step from each", 0, steps);
    }

    @Says(at = 43, line = "many: any int")
    private static void anyProfile() {
        for (String text : new String[] {ONE, Made.FANO, Made.FIFTEEN})
            for (int many : FAR) due(many + " in " + text, 0, load(text).trainProfile(many));
        int[][] want = {{0, 28}, {1, 0}, {4, 0}, {5, 7}, {6, 0}, {35, 0}};
        for (int[] w : want) due("of seven, " + w[0], w[1], Made.full().trainProfile(w[0]));
        due("all of nine", 84, load(Made.NINE).trainProfile(1));
        due("none of nine", 0, load(Made.NINE).trainProfile(0));
        due("none of fifteen", 420, load(Made.FIFTEEN).trainProfile(0));
        due("thirteen of fifteen", 35, load(Made.FIFTEEN).trainProfile(13));
        due("the only set", 1, load(ONE).trainProfile(1));
        due("no other set", 0, load(ONE).trainProfile(0));
    }

    @Says(at = 43, line = "Throws IllegalStateException if the system is not complete")
    private static void profileNotComplete() {
        for (int many : new int[] {0, 1, -1, Integer.MIN_VALUE, Integer.MAX_VALUE}) {
            Refused.with(STATE, Made::open, "open", x -> x.trainProfile(many));
            Refused.with(STATE, Made::three, "three", x -> x.trainProfile(many));
            Refused.with(STATE, Made::bare, "bare", x -> x.trainProfile(many));
            Refused.taken(STATE, Made::full, "full", x -> x.trainProfile(many));
        }
    }

    @Says(at = 44, line = "Returns the number of rounds.")
    private static void rounds() {
        due("the only one", 1, load(ONE).rounds());
        due("the triples of seven", 7, Made.full().rounds());
        due("the triples of fifteen", 35, load(Made.FIFTEEN).rounds());
        due("twelve triples, and three by three the 72 others", 12 + 24, load(Made.NINE).rounds());
    }

    @Says(at = 44, line = "each once.")
    private static void roundsOnce() {
        TripleTrains x = load(Made.NINE);
        int sets = 0;
        int thirds = 0;
        for (int a = 0; a < 9; a++)
            for (int b = a + 1; b < 9; b++)
                for (int c = b + 1; c < 9; c++) {
                    sets++;
                    if (x.roundOf(a, b, c) == 3) thirds++;
                }
        due("sets", 84, sets);
        due("rounds", sets - thirds + thirds / 3, x.rounds());
    }

    @Says(at = 44, line = "Throws IllegalStateException if the system is not complete")
    private static void roundsNotComplete() {
        Refused.with(STATE, Made::open, "open", TripleTrains::rounds);
        Refused.with(STATE, Made::three, "three", TripleTrains::rounds);
        Refused.with(STATE, Made::bare, "bare", TripleTrains::rounds);
        Refused.taken(STATE, Made::full, "full", TripleTrains::rounds);
        Refused.taken(STATE, of(ONE), "three points, complete", TripleTrains::rounds);
    }

    // ---- promises 45 to 48

    @Says(at = 45, line = "k: any int")
    private static void isTurnedByAny() {
        TripleTrains x = load(Made.NINE);
        for (int k = -20; k <= 20; k++) is("by " + k, k % 3 == 0, x.isTurned(k));
        for (int k : FAR) is("by " + k, k % 3 == 0, x.isTurned(k));
        is("by the least and two", true, x.isTurned(Integer.MIN_VALUE + 2));
        is("by the greatest but one", true, x.isTurned(Integer.MAX_VALUE - 1));
        Check.input(x, "points 7;x");
        x.loadSystem();
        for (int k = -20; k <= 20; k++) is("behind an error, by " + k, k % 3 == 0, x.isTurned(k));
        TripleTrains y = load("points 15;triple 12 13 14;");
        for (int k = -31; k <= 31; k++) is("one triple by " + k, k % 15 == 0, y.isTurned(k));
        for (int k : FAR) is("all turns by " + k, true, load(Made.FIFTEEN).isTurned(k));
    }

    @Says(at = 45, line = "Returns true if so.")
    private static void isTurned() {
        is("no triple", true, new TripleTrains().isTurned(1));
        is("all but one", false, Made.open().isTurned(1));
        is("by nothing", true, Made.open().isTurned(0));
        is("the whole way", true, Made.open().isTurned(7));
        is("half the way", true, load("points 6;triple 0 1 2;triple 3 4 5;").isTurned(3));
    }

    @Says(at = 46, line = "Returns the smallest such k from 1 on (V at most).")
    private static void leastTurns() {
        due("all", 1, load(Made.FIFTEEN).leastTurn());
        due("no triple of three", 1, new TripleTrains().leastTurn());
        due("no triple of fifteen", 1, load("points 15;").leastTurn());
        due("three", 3, load(Made.NINE).leastTurn());
        due("half the way", 3, load("points 6;triple 0 1 2;triple 3 4 5;").leastTurn());
        due("half of fourteen", 7, load("points 14;triple 0 1 2;triple 7 8 9;").leastTurn());
        due("only the whole way", 7, Made.open().leastTurn());
        due("only the whole way of fifteen", 15, load("points 15;triple 0 1 2;").leastTurn());
        due("two", 2, load("points 8;triple 0 1 3;triple 2 3 5;triple 4 5 7;triple 6 7 1;").leastTurn());
    }

    @Says(at = 47, line = "Returns the number of orbits.")
    private static void orbits() {
        due("no triple", 0, load("points 15;").orbits());
        due("one", 1, Made.full().orbits());
        due("one of three", 1, load(ONE).orbits());
        due("two full ones and a third", 3, load(Made.FIFTEEN).orbits());
        due("each alone", 6, Made.open().orbits());
        due("each alone of fifteen", 34, but34().orbits());
        due("by three", 6, load(Made.NINE).orbits());
        due("half the way", 1, load("points 6;triple 0 1 2;triple 3 4 5;").orbits());
    }

    private static TripleTrains but34() {
        TripleTrains x = load(Made.FIFTEEN);
        x.remove(34);
        return x;
    }

    /** Each of the triples stays where it is under a turn by five. */
    private static TripleTrains turnedByFive() {
        return load("points 15;triple 0 5 10;triple 1 6 11;triple 2 7 12;triple 3 8 13;");
    }

    @Says(at = 47, line = "two triples are in one orbit if it leads, done again and again, from one to the other.")
    private static void againAndAgain() {
        due("least turn", 5, turnedByFive().leastTurn());
        due("each leads to itself alone", 4, turnedByFive().orbits());
        due("by seven once", 1, load("points 14;triple 0 1 2;triple 7 8 9;").orbits());
        TripleTrains x = load("points 8;triple 0 1 3;triple 2 3 5;triple 4 5 7;triple 6 7 1;");
        due("by two, three times", 1, x.orbits());
    }

    @Says(at = 48, line = "k: any int")
    private static void turnByAny() {
        for (int k : new int[] {0, 7, -7, 14, 700000000, Integer.MIN_VALUE + 2, Integer.MAX_VALUE - 1})
            isChangeOfNothing(Made::open, x -> x.turn(k));
        for (int k : FAR) due("all stay, by " + k, 7, Made.full().turn(k));
        int[][] turns = {{1, 0}, {-1, 0}, {6, 0}, {8, 0}, {Integer.MAX_VALUE, 0}, {Integer.MIN_VALUE, 0}, {7, 1}, {0, 1}};
        for (int[] t : turns) due("one triple by " + t[0], t[1], load("points 7;triple 0 1 2;").turn(t[0]));
    }

    @Says(at = 48, line = "This is a change.")
    private static void turnIsChange() {
        isChange(Made::open, x -> x.turn(1));
        isChange(Made::open, x -> x.turn(Integer.MIN_VALUE));
        isChangeOfNothing(Made::full, x -> x.turn(3));
        isChangeOfNothing(Made::three, x -> x.turn(1));
        isChangeOfNothing(Made::open, x -> x.turn(0));
    }

    @Says(at = 48, line = "Returns how many of its triples were in the system before.")
    private static void howManyStay() {
        due("none without triples", 0, new TripleTrains().turn(0));
        due("all", 35, load(Made.FIFTEEN).turn(14));
        due("all by nothing", 6, Made.open().turn(0));
        due("all but one", 5, Made.open().turn(1));
        due("none", 0, load("points 15;triple 12 13 14;").turn(1));
        due("some", 3, load(Made.NINE).turn(1));
    }

    public static void main(String[] args) { run(TrainEdgesTest.class); }
}
