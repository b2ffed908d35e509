import java.util.function.Supplier;

/** The edges of promises 49 to 59: shares, sets of points, and changes of many triples. */
public final class SetEdgesTest extends Edges {
    private static Supplier<TripleTrains> of(String text) { return () -> load(text); }

    // ---- promises 49 and 50

    @Says(at = 49, line = "Returns the mean")
    private static void means() {
        Check.due("the greatest", 12.0, load(Made.FIFTEEN).meanQuads());
        Check.due("no quadrilateral", 0.0, load(Made.NINE).meanQuads());
        Check.due("one in four", 1.0, load(Made.PASCH).meanQuads());
        TripleTrains x = load(Made.PASCH.replace("6;", "9;") + "triple 6 7 8;");
        Check.due("one in five", 4.0 / 5.0, x.meanQuads());
        x.add(0, 5, 8);
        Check.due("one in six, as a double", 4.0 / 6.0, x.meanQuads());
    }

    @Says(at = 49, line = "0.0 without triples.")
    private static void meanOfNone() {
        Check.due("three points", 0.0, new TripleTrains().meanQuads());
        Check.due("fifteen points", 0.0, load("points 15;").meanQuads());
        TripleTrains x = load("points 3;triple 0 1 2;");
        x.remove(0);
        Check.due("none is left", 0.0, x.meanQuads());
    }

    @Says(at = 49, line = "4 * the quadrilaterals divided by the triples, both converted to double.")
    private static void meanAsDouble() {
        TripleTrains x = load(Made.PASCH.replace("6;", "12;") + "triple 0 5 6;triple 7 8 9;triple 0 7 10;");
        Check.due("4 / 7, no whole number and no float", 4.0 / 7.0, x.meanQuads());
    }

    @Says(at = 50, line = "both numbers converted to float.")
    private static void shareAsFloat() {
        Check.due("3 / 105, no double", 3.0f / 105.0f, load("points 15;triple 0 1 2;").coverage());
    }

    @Says(at = 50, line = "Returns the share.")
    private static void shares() {
        Check.due("nothing", 0.0f, new TripleTrains().coverage());
        Check.due("nothing of fifteen", 0.0f, load("points 15;").coverage());
        Check.due("all", 1.0f, load(Made.FIFTEEN).coverage());
        Check.due("all of three", 1.0f, load("points 3;triple 0 1 2;").coverage());
        Check.due("but one triple", 18.0f / 21.0f, Made.open().coverage());
        Check.due("three of 28, to the last bit of a float", 3.0f / 28.0f, load("points 8;triple 0 1 2;").coverage());
        Check.due("a half", 0.5f, load("points 4;triple 0 1 2;").coverage());
    }

    // ---- promises 51 to 53

    @Says(at = 51, line = "as long as two of its points have a third point that is not in it, this comes in.")
    private static void closes() {
        TripleTrains x = load("points 15;triple 0 1 2;triple 2 3 4;triple 4 5 6;triple 6 7 8;triple 8 9 10;triple 10 11 12;triple 12 13 14;");
        due("two points", 7, x.closure(3));
        due("on and on", 0x1f, x.closure(0xb));
        due("to the last one", 0x7fff, x.closure(0x2aab));
        due("back to the first one", 0x7fff, x.closure(0x6aaa));
        due("nothing comes in", 9, x.closure(9));
        TripleTrains y = load("points 7;triple 0 1 2;");
        due("a triple", 7, y.closure(7));
        due("one point in common", 0x79, y.closure(0x79));
    }

    @Says(at = 51, line = "Returns the closed set as a bit mask.")
    private static void closedSets() {
        due("the empty set", 0, Made.full().closure(0));
        for (int p = 0; p < 7; p++) due("point " + p, 1 << p, Made.full().closure(1 << p));
        due("all", 127, Made.full().closure(127));
        due("all of fifteen", 32767, load(Made.FIFTEEN).closure(32767));
        due("all without triples", 32767, load("points 15;").closure(32767));
        due("the last two", 16384 | 8192, load("points 15;").closure(16384 | 8192));
    }

    @Says(at = 51, line = "Throws IllegalArgumentException if set has other bits than those of points")
    private static void otherBits() {
        for (Supplier<TripleTrains> made : Made.all()) {
            int v = made.get().count(0);
            for (int bit = v; bit < 32; bit++) {
                int other = 1 << bit;
                Refused.with(ARGUMENT, made, "bit " + bit, x -> x.closure(other));
                Refused.with(ARGUMENT, made, "bit " + bit + " and points", x -> x.closure(other | 3));
            }
            Refused.with(ARGUMENT, made, "all bits", x -> x.closure(-1));
            Refused.taken(ARGUMENT, made, "all points", x -> x.closure((1 << v) - 1));
            Refused.taken(ARGUMENT, made, "no point", x -> x.closure(0));
        }
    }

    @Says(at = 52, line = "have more than 3 points and fewer than all.")
    private static void sizesOfSubsystems() {
        due("three points", 0, new TripleTrains().subsystems());
        due("four points: none has more than 3 and fewer than 4", 0, load("points 4;").subsystems());
        due("five points: those of 4", 5, load("points 5;").subsystems());
        due("six points: those of 4 and 5", 15 + 6, load("points 6;").subsystems());
        due("triples are no subsystems", 0, Made.full().subsystems());
        due("nor the triples of nine", 0, load(Made.NINE).subsystems());
        due("all but a few of fifteen", 32768 - 1 - 15 - 105 - 455 - 1, load("points 15;").subsystems());
    }

    @Says(at = 52, line = "Returns the number of sets.")
    private static void subsystems() {
        due("planes", 15, load(Made.FIFTEEN).subsystems());
        // Two points of the triple 0 1 2 bring the third one: of 4 points two sets are closed, 0 1 2 with 3 or 4.
        due("with one triple of five", 2, load("points 5;triple 0 1 2;").subsystems());
        due("none", 0, load(Made.THIRTEEN).subsystems());
    }

    @Says(at = 53, line = "Finds a largest set of points in which no triple lies.")
    private static void largestSets() {
        due("all without triples", 7, new TripleTrains().independent());
        due("all fifteen", 32767, load("points 15;").independent());
        due("eight of fifteen", 8, Integer.bitCount(load(Made.FIFTEEN).independent()));
        due("four of seven", 4, Integer.bitCount(Made.full().independent()));
        TripleTrains x = load(Made.THIRTEEN);
        int set = x.independent();
        for (int t = 0; t < 26; t++) {
            int triple = 1 << x.triple(t, 0) | 1 << x.triple(t, 1) | 1 << x.triple(t, 2);
            is("triple " + t + " lies in it", false, (triple & set) == triple);
        }
    }

    @Says(at = 53, line = "of several the smallest one.")
    private static void smallestSet() {
        due("two of three", 3, load("points 3;triple 0 1 2;").independent());
        due("all but the greatest of the triple", 0x7fff & ~(1 << 14), load("points 15;triple 12 13 14;").independent());
        due("of seven, 0 2 3 4", 29, Made.full().independent());
        due("without 3 4 6, 0 1 2 5", bestOf(Made.open(), 7), Made.open().independent());
    }

    /** Goes through all sets, the smallest first. */
    private static int bestOf(TripleTrains x, int points) {
        int best = 0;
        for (int set = 0; set < 1 << points; set++) {
            boolean free = true;
            for (int t = 0; t < 6; t++) {
                int triple = 1 << x.triple(t, 0) | 1 << x.triple(t, 1) | 1 << x.triple(t, 2);
                if ((triple & set) == triple) free = false;
            }
            if (free && Integer.bitCount(set) > Integer.bitCount(best)) best = set;
        }
        return best;
    }

    // ---- promises 54 and 55

    @Says(at = 54, line = "Returns the number.")
    private static void apart() {
        due("it has points in common with itself", 0, load("points 3;triple 0 1 2;").apart(0));
        for (int t = 0; t < 7; t++) due("none of seven, " + t, 0, Made.full().apart(t));
        for (int t = 0; t < 12; t++) due("two of nine, " + t, 2, load(Made.NINE).apart(t));
        for (int t = 0; t < 35; t++) due("sixteen of fifteen, " + t, 16, load(Made.FIFTEEN).apart(t));
        TripleTrains x = load("points 15;triple 0 1 2;triple 2 3 4;triple 12 13 14;triple 5 12 0;");
        due("the smallest point in common, and the greatest", 1, x.apart(0));
        due("the last triple", 2, x.apart(3));
    }

    @Says(at = 54, line = "Throws IndexOutOfBoundsException if there is no such triple")
    private static void apartNoTriple() { Refused.noTriple(TripleTrains::apart); }

    @Says(at = 55, line = "Returns their number.")
    private static void mostApart() {
        due("none without triples", 0, load("points 15;").mostApart());
        due("one", 1, load("points 3;triple 0 1 2;").mostApart());
        due("one of seven", 1, Made.full().mostApart());
        due("two", 2, load("points 6;triple 0 1 2;triple 3 4 5;").mostApart());
        due("three of nine", 3, load(Made.NINE).mostApart());
        due("four of twelve", 4, load("points 12;develop 0 4 8;").mostApart());
        due("five of fifteen", 5, load(Made.FIFTEEN).mostApart());
        due("not the first one", 2, load("points 9;triple 0 3 6;triple 0 1 2;triple 3 4 5;").mostApart());
    }

    // ---- promises 56 and 57

    @Says(at = 56, line = "Returns how many triples are in the system then that were not before.")
    private static void freshTriples() {
        due("none without triples", 0, load("points 15;").swap(13, 14));
        due("two of a triple", 0, load("points 3;triple 0 1 2;").swap(0, 2));
        due("two that stand in none", 0, load("points 15;triple 0 1 2;").swap(13, 14));
        due("one into nothing", 1, load("points 15;triple 0 1 2;").swap(2, 14));
        due("a triple of both stays", 2, load("points 15;triple 0 1 2;triple 0 3 4;triple 1 5 6;").swap(1, 0));
        due("four of seven", 4, Made.full().swap(5, 6));
        due("twelve of fifteen", 12, load(Made.FIFTEEN).swap(0, 14));
    }

    @Says(at = 56, line = "Exchanges two points in all triples.")
    private static void exchanged() {
        TripleTrains x = Made.open();
        x.swap(6, 0);
        int[][] want = {{6, 1, 3}, {6, 2, 0}, {6, 4, 5}, {1, 2, 4}, {1, 5, 0}, {2, 3, 5}};
        for (int[] w : want) is(w[0] + " " + w[1] + " " + w[2], true, x.find(w[0], w[1], w[2]) >= 0);
        due("no more", 6, x.count(1));
        inItself("exchanged", x);
        x.swap(0, 6);
        Check.due("and back", Portrait.triples(Made.open()), Portrait.triples(x));
        TripleTrains y = load("points 15;triple 0 1 2;triple 3 4 5;");
        y.swap(2, 14);
        inItself("one into nothing", y);
    }

    @Says(at = 56, line = "This is a change.")
    private static void swapIsChange() {
        isChange(Made::open, x -> x.swap(0, 6));
        isChange(Made::full, x -> x.swap(5, 6));
        isChangeOfNothing(Made::three, x -> x.swap(0, 1));
        isChangeOfNothing(of("points 15;triple 0 1 2;"), x -> x.swap(0, 2));
        isChangeOfNothing(of("points 15;triple 0 1 2;"), x -> x.swap(14, 13));
    }

    @Says(at = 56, line = "Throws IndexOutOfBoundsException if there is no such point")
    private static void swapNoPoint() { Refused.noPoint(TripleTrains::swap); }

    @Says(at = 56, line = "Throws IllegalArgumentException if both are the same")
    private static void swapSame() { Refused.samePoints(TripleTrains::swap); }

    @Says(at = 57, line = "Returns how many are removed.")
    private static void cleared() {
        due("none", 0, new TripleTrains().clear(2));
        due("the only one", 1, load("points 3;triple 0 1 2;").clear(1));
        due("most, at 0", 7, load(Made.FIFTEEN).clear(0));
        due("most, at 14", 7, load(Made.FIFTEEN).clear(14));
        TripleTrains x = Made.full();
        due("three", 3, x.clear(6));
        due("it stands in none then", 0, x.degree(6));
        due("the others stay", 4, x.count(1));
    }

    @Says(at = 57, line = "This is a change.")
    private static void clearIsChange() {
        isChange(Made::full, x -> x.clear(0));
        isChange(Made::open, x -> x.clear(6));
        isChangeOfNothing(Made::three, x -> x.clear(0));
        isChangeOfNothing(of("points 15;triple 0 1 2;"), x -> x.clear(14));
    }

    @Says(at = 57, line = "Throws IndexOutOfBoundsException if there is no such point")
    private static void clearNoPoint() { Refused.noPoint(TripleTrains::clear); }

    // ---- promises 58 and 59

    @Says(at = 58, line = "Returns the number of triples, 0 to 3.")
    private static void inTheWay() {
        TripleTrains x = load("points 9;triple 0 1 3;triple 1 2 4;triple 0 2 5;");
        due("none", 0, x.inTheWay(6, 7, 8));
        due("none, though points stand in triples", 0, x.inTheWay(3, 4, 5));
        due("one", 1, x.inTheWay(8, 1, 0));
        due("two", 2, x.inTheWay(4, 1, 0));
        due("three", 3, x.inTheWay(2, 1, 0));
        due("itself", 1, x.inTheWay(5, 2, 0));
        due("none at all", 0, new TripleTrains().inTheWay(0, 1, 2));
    }

    @Says(at = 58, line = "Throws IndexOutOfBoundsException if there is no such point")
    private static void inTheWayNoPoint() { Refused.noPoint(TripleTrains::inTheWay); }

    @Says(at = 58, line = "Throws IllegalArgumentException if two of them are the same")
    private static void inTheWaySame() { Refused.samePoints(TripleTrains::inTheWay); }

    @Says(at = 59, line = "Returns how many are removed.")
    private static void forcedOut() {
        String text = "points 9;triple 0 1 3;triple 1 2 4;triple 0 2 5;triple 6 7 8;";
        int[][] calls = {{3, 4, 5, 0}, {8, 1, 0, 1}, {4, 1, 0, 2}, {2, 1, 0, 3}};
        for (int[] c : calls) {
            TripleTrains x = load(text);
            due("removed", c[3], x.force(c[0], c[1], c[2]));
            due("then", 5 - c[3], x.count(1));
            is("it is there", true, x.find(c[0], c[1], c[2]) >= 0);
        }
        due("of three points", 0, new TripleTrains().force(2, 1, 0));
        due("what is not in the way stays", 2, behindForce(text));
    }

    private static int behindForce(String text) {
        TripleTrains x = load(text);
        x.force(0, 1, 2);
        return x.find(6, 7, 8) >= 0 ? x.count(1) : -1;
    }

    @Says(at = 59, line = "This is a change.")
    private static void forceIsChange() {
        isChange(Made::open, x -> x.force(3, 4, 6));
        isChange(Made::full, x -> x.force(0, 1, 2));
        isChange(Made::three, x -> x.force(0, 1, 2));
    }

    @Says(at = 59, line = "Throws IndexOutOfBoundsException if there is no such point")
    private static void forceNoPoint() { Refused.noPoint(TripleTrains::force); }

    @Says(at = 59, line = "Throws IllegalArgumentException if two of them are the same")
    private static void forceSame() { Refused.samePoints(TripleTrains::force); }

    @Says(at = 59, line = "Throws IllegalStateException if it is in the system")
    private static void forceThere() {
        for (int[] p : new int[][] {{0, 1, 3}, {3, 1, 0}, {1, 0, 3}, {2, 3, 5}}) {
            Refused.with(STATE, Made::full, "there", x -> x.force(p[0], p[1], p[2]));
            Refused.with(STATE, Made::open, "there", x -> x.force(p[0], p[1], p[2]));
        }
        Refused.with(STATE, Made::full, "the last", x -> x.force(6, 4, 3));
        Refused.taken(STATE, Made::open, "no longer", x -> x.force(6, 4, 3));
        Refused.taken(STATE, Made::full, "only covered", x -> x.force(0, 1, 2));
    }

    public static void main(String[] args) { run(SetEdgesTest.class); }
}
