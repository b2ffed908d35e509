import java.util.function.Supplier;

/** The edges of quadrilaterals, cycles and trades, and of promises 21 to 38. */
public final class SwitchEdgesTest extends Edges {
    /** The six points between two that are not covered are one cycle. */
    private static final String SIX = "points 8;triple 0 2 3;triple 1 3 4;triple 0 4 5;triple 1 5 6;triple 0 6 7;triple 1 2 7;";

    private static Supplier<TripleTrains> of(String text) { return () -> load(text); }

    private static TripleTrains twoApart() {
        return load("points 12;triple 0 1 2;triple 0 3 4;triple 1 3 5;triple 2 4 5;"
            + "triple 6 7 8;triple 6 9 10;triple 7 9 11;triple 8 10 11;");
    }

    // ---- terms

    @Says(at = 0, line = "A quadrilateral is four triples of the system that have six points together, each of which stands in two of them.")
    private static void sixPoints() {
        due("six points", 1, load(Made.PASCH).count(3));
        due("only three triples", 0, load("points 6;triple 0 1 2;triple 0 3 4;triple 1 3 5;").count(3));
        due("seven points", 0, load("points 7;triple 0 1 2;triple 0 3 4;triple 1 3 5;triple 2 4 6;").count(3));
        due("through one point", 0, load("points 9;triple 0 1 2;triple 0 3 4;triple 0 5 6;triple 0 7 8;").count(3));
        due("the highest six", 1, load("points 15;triple 9 10 11;triple 9 12 13;triple 10 12 14;triple 11 13 14;").count(3));
        due("two apart", 2, twoApart().count(3));
        due("with the rest of a plane", 3, Made.open().count(3));
    }

    @Says(at = 0, line = "Each of the six points has an opposite, the one of the six with which it stands in none of the four.")
    private static void opposites() {
        TripleTrains x = load(Made.PASCH);
        for (int p = 0; p < 6; p++) due("of " + p, 5 - p, x.opposite(0, p));
        TripleTrains y = load("points 15;triple 9 10 11;triple 9 12 13;triple 10 12 14;triple 11 13 14;");
        for (int p = 9; p < 15; p++) due("of " + p, 23 - p, y.opposite(0, p));
        for (int a = 1; a < 6; a++) for (int b = 1; b < 6; b++) if (a != b) oppositesOf(a, b);
        TripleTrains z = Made.full();
        due("covered by another triple of the system", 1, z.third(z.quad(6, 4), z.opposite(6, z.quad(6, 4))) >= 0 ? 1 : 0);
    }

    /** The opposite of 0 is a, that of b is c, those of the last two are each other. */
    private static void oppositesOf(int a, int b) {
        for (int c = b + 1; c < 6; c++) {
            if (c == a) continue;
            int d = 1;
            while (d == a || d == b || d == c) d++;
            int e = 15 - a - b - c - d;
            TripleTrains x = load("points 6;triple 0 " + b + " " + d + ";triple 0 " + c + " " + e + ";triple "
                + a + " " + b + " " + e + ";triple " + a + " " + c + " " + d + ";");
            int[][] want = {{0, a}, {b, c}, {d, e}};
            for (int[] w : want) {
                due("of " + w[0], w[1], x.opposite(0, w[0]));
                due("of " + w[1], w[0], x.opposite(0, w[1]));
            }
        }
    }

    @Says(at = 0, line = "Switching it replaces each of the four triples by that of the opposites of its points.")
    private static void switchedQuad() {
        TripleTrains x = load(Made.PASCH);
        x.switchQuad(0);
        int[][] want = {{0, 1, 3}, {0, 2, 4}, {1, 2, 5}, {3, 4, 5}};
        for (int t = 0; t < 4; t++) due("triple " + t, t, x.find(want[t][0], want[t][1], want[t][2]));
        due("no more", 4, x.count(1));
        TripleTrains y = twoApart();
        y.switchQuad(1);
        due("the other stays", 0, y.find(0, 1, 2));
        due("this one went", -1, y.find(6, 7, 8));
    }

    @Says(at = 0, line = "Quadrilaterals are numbered from 0 in lexicographic order of the numbers of their triples, each with these rising.")
    private static void numbersOfQuads() {
        TripleTrains x = load(Made.FIFTEEN);
        int before = -1;
        for (int q = 0; q < 105; q++) {
            int now = 0;
            for (int i = 0; i < 4; i++) {
                int triple = x.quad(q, i);
                is("rises in " + q, true, i == 0 || triple > now % 35);
                now = now * 35 + triple;
            }
            is("rises to " + q, true, now > before);
            before = now;
        }
        due("0 is the lowest", 0, twoApart().quad(0, 0));
    }

    @Says(at = 0, line = "one begins with a point x that is neither of them nor their third point")
    private static void outsideOnly() {
        TripleTrains x = Made.full();
        for (int i = 0; i < 4; i++) {
            int p = x.cyclePoint(0, 1, 0, i);
            is("point " + p, true, p != 0 && p != 1 && p != 3);
        }
        due("no point is left of three", 0, load("points 3;triple 0 1 2;").cycles(0, 1));
        due("no point but the third, one of four", 0, load("points 4;triple 0 1 2;").cycles(0, 1));
        due("all of the others", 12, load(Made.TWELVE).cycleLength(0, 1, 0));
    }

    @Says(at = 0, line = "from a point to its third point with a, from there to the third point with b, from there with a again")
    private static void inTurns() {
        TripleTrains x = load(Made.TWELVE);
        for (int i = 0; i < 12; i++) {
            int here = x.cyclePoint(0, 1, 0, i);
            int next = x.cyclePoint(0, 1, 0, (i + 1) % 12);
            due("step " + i, next, x.third(i % 2, here));
        }
    }

    @Says(at = 0, line = "If one comes back to x by a step with b, before a third point lacks, the points on the way (x counts once) are a cycle of a and b")
    private static void comesBack() {
        due("all twelve steps", 1, load(Made.TWELVE).cycles(0, 1));
        for (int lacking = 0; lacking < 12; lacking++) {
            TripleTrains x = load(Made.TWELVE);
            x.remove(lacking);
            due("without triple " + lacking, 0, x.cycles(0, 1));
            due("the other way, too", 0, x.cycles(1, 0));
        }
    }

    @Says(at = 0, line = "which has an even length, 4 at least")
    private static void evenLengths() {
        TripleTrains x = load(Made.FIFTEEN);
        due("the least", 315, x.cyclesOf(4));
        for (int length : new int[] {0, 1, 2, 3, 5, 7, 9, 11, 13}) due("of " + length, 0, x.cyclesOf(length) + load(Made.THIRTEEN).cyclesOf(length));
        due("six", 6, load(SIX).cycleLength(0, 1, 0));
        due("the most", 12, load(Made.TWELVE).cycleLength(1, 0, 0));
    }

    @Says(at = 0, line = "its row begins with its smallest point, and the first step is with a.")
    private static void rowsBegin() {
        TripleTrains x = load(Made.TWELVE);
        for (int i = 0; i < 12; i++) {
            due("with 0 first, " + i, 2 + i, x.cyclePoint(0, 1, 0, i));
            due("with 1 first, " + i, 2 + (12 - i) % 12, x.cyclePoint(1, 0, 0, i));
        }
    }

    @Says(at = 0, line = "The cycles of a and b are numbered from 0 by their smallest points.")
    private static void numbersOfCycles() {
        TripleTrains x = load(Made.FIFTEEN);
        for (int b = 1; b < 15; b++) {
            int before = -1;
            for (int c = 0; c < 3; c++) {
                int now = x.cyclePoint(0, b, c, 0);
                is("rises", true, now > before);
                for (int i = 1; i < 4; i++) is("is the smallest", true, x.cyclePoint(0, b, c, i) > now);
                before = now;
            }
        }
    }

    @Says(at = 0, line = "in each triple of a and two of its points that follow one another by a step with a, a by b")
    private static void stepsWithFirst() {
        TripleTrains x = load(SIX);
        x.switchCycle(0, 1, 0);
        due("1 2 3", 3, x.find(1, 2, 3));
        due("1 4 5", 4, x.find(1, 4, 5));
        due("1 6 7", 5, x.find(1, 6, 7));
    }

    @Says(at = 0, line = "in each triple of b and two that follow by a step with b (the last one and the first one, too), b by a.")
    private static void stepsWithSecond() {
        TripleTrains x = load(SIX);
        x.switchCycle(0, 1, 0);
        due("0 3 4", 1, x.find(0, 3, 4));
        due("0 5 6", 2, x.find(0, 5, 6));
        due("0 7 2, the last one and the first one", 0, x.find(0, 7, 2));
        due("no more", 6, x.count(1));
        inItself("switched", x);
    }

    /** Nothing of a longer switch is left in a shorter one. */
    @Says(at = 0, line = "Switching a cycle of a and b replaces")
    private static void switchesOfTheirOwn() {
        String beside = ";triple 0 1 2;triple 0 3 4;triple 1 3 5;triple 2 4 5;";
        String six = "triple 6 8 9;triple 7 9 10;triple 6 10 11;triple 7 11 12;triple 6 12 13;triple 7 8 13;";
        TripleTrains x = load("points 14" + beside + six);
        due("the long one", 6, x.switchCycle(6, 7, 0));
        due("the short one", 4, x.switchCycle(0, 5, 0));
        inItself("both switched", x);
        int[][] want = {{7, 8, 9}, {6, 9, 10}, {7, 10, 11}, {6, 11, 12}, {7, 12, 13}, {6, 8, 13}, {5, 1, 2}, {5, 3, 4}, {0, 1, 3}, {0, 2, 4}};
        for (int[] w : want) is(w[0] + " " + w[1] + " " + w[2], true, x.find(w[0], w[1], w[2]) >= 0);
        due("no more", 10, x.count(1));
        due("a forecast of the long one", 1, x.wouldHaveBy(6, 7, 0));
        due("then one of the short one", 1, x.wouldHaveBy(0, 5, 0));
        due("and one of the quadrilateral", 1, x.wouldHave(0));
        x.switchCycle(6, 7, 0);
        due("and its switch", 1, x.switchQuad(0));
        Check.due("all back", Portrait.triples(load("points 14" + beside + six)), Portrait.triples(x));
        inItself("all back", x);
    }

    @Says(at = 0, line = "A trade is a set of triples of the system that switching some cycle of some two points replaces")
    private static void tradesOfCycles() {
        TripleTrains x = load(SIX.replace("points 8", "points 9") + "triple 2 4 6;triple 0 1 8;");
        due("0 1 8, the first one", 0, x.find(0, 1, 8));
        due("2 4 6, the last one", 7, x.find(2, 4, 6));
        due("one trade", 1, x.trades(6));
        Check.due("all but the first and the last", 126L, x.trade(6, 0));
        String[] before = Portrait.triples(x).trim().split("\\|");
        x.switchCycle(0, 1, 0);
        String behind = Portrait.triples(x).trim() + "|";
        for (int t = 1; t < 7; t++) is(before[t + 1] + " is replaced", false, behind.contains("|" + before[t + 1] + "|"));
        is("0 1 8 stays", true, x.find(0, 1, 8) >= 0);
        is("2 4 6 stays", true, x.find(2, 4, 6) >= 0);
        due("a way that ends makes none", 0, load("points 6;triple 0 1 2;triple 0 3 4;triple 1 3 5;").trades(4));
    }

    @Says(at = 0, line = "its volume is how many they are (the length of the cycle).")
    private static void volumes() {
        due("twelve", 1, load(Made.TWELVE).trades(12));
        due("the numbers of all its triples", (1 << 12) - 1, (int) load(Made.TWELVE).trade(12, 0));
        due("six", 1, load(SIX).trades(6));
        due("all six", 63, (int) load(SIX).trade(6, 0));
        due("four", 1, load(Made.PASCH).trades(4));
        due("all four", 15, (int) load(Made.PASCH).trade(4, 0));
    }

    @Says(at = 0, line = "Two cycles that replace the same triples make one trade.")
    private static void oneTrade() {
        TripleTrains x = load(Made.PASCH);
        due("three cycles", 3, x.cyclesOf(4));
        due("one trade", 1, x.trades(4));
        TripleTrains y = load(Made.FIFTEEN);
        due("315 cycles", 315, y.cyclesOf(4));
        due("105 trades", 105, y.trades(4));
    }

    // ---- promises 21 to 24

    @Says(at = 21, line = "0 to 3 the numbers of its triples, rising")
    private static void triplesOfQuad() {
        TripleTrains x = load("points 7;triple 0 2 4;triple 0 1 6;triple 0 3 5;triple 2 3 6;triple 4 5 6;");
        int[] want = {1, 2, 3, 4};
        for (int i = 0; i < 4; i++) due("triple " + i, want[i], x.quad(0, i));
        due("the last triple", 34, lastTripleIn(load(Made.FIFTEEN)));
    }

    private static int lastTripleIn(TripleTrains x) {
        int most = 0;
        for (int q = 0; q < 105; q++) most = Math.max(most, x.quad(q, 3));
        return most;
    }

    @Says(at = 21, line = "4 to 9 its points, rising")
    private static void pointsOfQuad() {
        TripleTrains x = load("points 15;triple 14 12 10;triple 14 13 11;triple 12 11 9;triple 10 13 9;");
        for (int i = 0; i < 6; i++) due("point " + i, 9 + i, x.quad(0, 4 + i));
    }

    @Says(at = 21, line = "Returns the number of the triple, or the point.")
    private static void triplesAndPoints() {
        TripleTrains x = load(Made.PASCH);
        int[] want = {0, 1, 2, 3, 0, 1, 2, 3, 4, 5};
        for (int i = 0; i < 10; i++) due("what " + i, want[i], x.quad(0, i));
    }

    @Says(at = 21, line = "Throws IndexOutOfBoundsException if there is no such quadrilateral")
    private static void quadThere() {
        Refused.noQuad((x, q) -> x.quad(q, 0));
        Refused.noQuad((x, q) -> x.quad(q, 9));
        Refused.with(INDEX, of(Made.NINE), "none at all", x -> x.quad(0, 0));
        Refused.with(INDEX, of(Made.PASCH), "both", x -> x.quad(1, 10));
        Refused.with(INDEX, of(Made.PASCH), "both", x -> x.quad(-1, -1));
    }

    @Says(at = 21, line = "Throws IllegalArgumentException if what is out of range")
    private static void whatOfQuad() {
        Refused.range(ARGUMENT, Made::full, 0, 9, (x, i) -> x.quad(0, i));
        Refused.range(ARGUMENT, Made::full, 0, 9, (x, i) -> x.quad(6, i));
    }

    @Says(at = 22, line = "Returns the opposite")
    private static void oppositeInLast() {
        TripleTrains x = load(Made.FIFTEEN);
        for (int q = 0; q < 105; q += 104)
            for (int i = 4; i < 10; i++) {
                int p = x.quad(q, i);
                int other = x.opposite(q, p);
                due("and back", p, x.opposite(q, other));
                for (int t = 0; t < 4; t++) {
                    int both = 0;
                    for (int k = 0; k < 3; k++) {
                        int in = x.triple(x.quad(q, t), k);
                        if (in == p || in == other) both++;
                    }
                    due("one of the two stands in each triple", 1, both);
                }
            }
    }

    @Says(at = 22, line = "-1 if the point is none of its six.")
    private static void noOpposite() {
        TripleTrains x = load("points 8;triple 1 2 3;triple 1 4 5;triple 2 4 6;triple 3 5 6;triple 0 1 6;");
        due("0, though covered with two", -1, x.opposite(0, 0));
        due("7, not covered", -1, x.opposite(0, 7));
        due("1", 6, x.opposite(0, 1));
        due("6", 1, x.opposite(0, 6));
    }

    @Says(at = 22, line = "Throws IndexOutOfBoundsException if there is no such quadrilateral or point")
    private static void oppositeThere() {
        Refused.noQuad((x, q) -> x.opposite(q, 0));
        Refused.range(INDEX, Made::full, 0, 6, (x, p) -> x.opposite(0, p));
        Refused.range(INDEX, Made::full, 0, 6, (x, p) -> x.opposite(6, p));
        Refused.range(INDEX, Made::fifteen, 0, 14, (x, p) -> x.opposite(104, p));
        Refused.with(INDEX, Made::full, "both", x -> x.opposite(7, 7));
    }

    @Says(at = 23, line = "Returns the number.")
    private static void quadsAt() {
        for (int p = 0; p < 15; p++) {
            due("most at " + p, 42, load(Made.FIFTEEN).quadsAt(p));
            due("none at " + p, 0, load("points 15;").quadsAt(p));
        }
        for (int p = 0; p < 7; p++) due("six of seven at " + p, 6, Made.full().quadsAt(p));
        for (int p = 0; p < 12; p++) due("one at " + p, 1, twoApart().quadsAt(p));
    }

    @Says(at = 23, line = "Throws IndexOutOfBoundsException if there is no such point")
    private static void quadsAtNoPoint() { Refused.noPoint(TripleTrains::quadsAt); }

    @Says(at = 24, line = "Returns the number.")
    private static void quadsOf() {
        for (int t = 0; t < 35; t++) due("most of " + t, 12, load(Made.FIFTEEN).quadsOf(t));
        for (int t = 0; t < 12; t++) due("none of " + t, 0, load(Made.NINE).quadsOf(t));
        for (int t = 0; t < 8; t++) due("one of " + t, 1, twoApart().quadsOf(t));
    }

    @Says(at = 24, line = "Throws IndexOutOfBoundsException if there is no such triple")
    private static void quadsOfNoTriple() { Refused.noTriple(TripleTrains::quadsOf); }

    // ---- promises 25 to 28

    @Says(at = 25, line = "Returns the number of quadrilaterals then.")
    private static void quadsThen() {
        due("the only one", 1, load(Made.PASCH).switchQuad(0));
        due("of seven", 7, Made.full().switchQuad(6));
        due("of 105", 73, load(Made.FIFTEEN).switchQuad(0));
        due("the last of 105", 73, load(Made.FIFTEEN).switchQuad(104));
        due("two apart", 2, twoApart().switchQuad(1));
    }

    @Says(at = 25, line = "This is a change.")
    private static void switchIsChange() {
        isChange(Made::full, x -> x.switchQuad(0));
        isChange(Made::open, x -> x.switchQuad(2));
        isChange(Made::fifteen, x -> x.switchQuad(104));
    }

    @Says(at = 25, line = "Throws IndexOutOfBoundsException if there is no such quadrilateral")
    private static void switchNoQuad() {
        Refused.noQuad(TripleTrains::switchQuad);
        Refused.with(INDEX, of(Made.NINE), "none at all", x -> x.switchQuad(0));
    }

    @Says(at = 26, line = "Returns the number.")
    private static void forecasts() {
        for (int q = 0; q < 105; q += 8) due("of 105, " + q, load(Made.FIFTEEN).switchQuad(q), load(Made.FIFTEEN).wouldHave(q));
        for (int q = 0; q < 3; q++) due("of three, " + q, Made.open().switchQuad(q), Made.open().wouldHave(q));
        due("the only one", 1, load(Made.PASCH).wouldHave(0));
        changesNothing(Made::full, "a forecast", x -> x.wouldHave(6));
        changesNothing(Made::fifteen, "a forecast", x -> x.wouldHave(104));
    }

    @Says(at = 26, line = "Throws IndexOutOfBoundsException if there is no such quadrilateral")
    private static void forecastNoQuad() {
        Refused.noQuad(TripleTrains::wouldHave);
        Refused.with(INDEX, of(Made.NINE), "none at all", x -> x.wouldHave(0));
    }

    /** One switch behind the space of fifteen points: the switches of its quadrilaterals leave different numbers. */
    private static TripleTrains uneven() {
        TripleTrains x = load(Made.FIFTEEN);
        x.switchQuad(52);
        return x;
    }

    @Says(at = 27, line = "Finds the quadrilateral whose switch leaves the fewest, or the most quadrilaterals.")
    private static void fewestOrMost() {
        TripleTrains x = uneven();
        int fewest = 999;
        int most = -1;
        for (int q = 0; q < x.count(3); q++) {
            fewest = Math.min(fewest, x.wouldHave(q));
            most = Math.max(most, x.wouldHave(q));
        }
        due("fewest", fewest, x.wouldHave(x.bestSwitch(false)));
        due("most", most, x.wouldHave(x.bestSwitch(true)));
        is("they differ", true, fewest < most);
        due("the only one, fewest", 0, load(Made.PASCH).bestSwitch(false));
        due("the only one, most", 0, load(Made.PASCH).bestSwitch(true));
    }

    @Says(at = 27, line = "the smallest one on a tie")
    private static void smallestOnTie() {
        due("all the same, fewest", 0, load(Made.FIFTEEN).bestSwitch(false));
        due("all the same, most", 0, load(Made.FIFTEEN).bestSwitch(true));
        TripleTrains x = uneven();
        for (int most = 0; most < 2; most++) {
            int best = x.bestSwitch(most == 1);
            int left = x.wouldHave(best);
            for (int q = 0; q < best; q++) is(q + " is none", false, x.wouldHave(q) == left);
        }
    }

    @Says(at = 27, line = "-1 if there is no quadrilateral.")
    private static void noBest() {
        for (String text : new String[] {"points 3;", "points 3;triple 0 1 2;", Made.NINE, "points 15;"}) {
            due("fewest of " + text, -1, load(text).bestSwitch(false));
            due("most of " + text, -1, load(text).bestSwitch(true));
        }
    }

    @Says(at = 28, line = "each time the one that leaves the fewest (see bestSwitch)")
    private static void descendsByBest() {
        TripleTrains x = uneven();
        TripleTrains y = uneven();
        for (int step = 0; step < 3; step++) {
            int fewest = y.wouldHave(y.bestSwitch(false));
            y.switchQuad(y.bestSwitch(false));
            due("one step", 1, x.descend(1));
            due("quadrilaterals", fewest, x.count(3));
            Check.due("the same system", Portrait.now(y), Portrait.now(x));
        }
        TripleTrains z = uneven();
        due("three at once", 3, z.descend(3));
        Check.due("the same triples", Portrait.triples(y), Portrait.triples(z));
    }

    @Says(at = 28, line = "as long as this makes them fewer")
    private static void descendsWhileFewer() {
        due("none", 0, load(Made.NINE).descend(20));
        due("as many behind it", 0, load(Made.PASCH).descend(20));
        due("seven stay seven", 0, Made.full().descend(20));
        TripleTrains x = load(Made.FIFTEEN);
        int steps = x.descend(20);
        is("ends by itself", true, steps < 20);
        due("no more", 0, x.descend(20));
        int best = x.bestSwitch(false);
        is("the next one makes no fewer", true, best < 0 || x.wouldHave(best) >= x.count(3));
    }

    @Says(at = 28, line = "at most so many times.")
    private static void descendsSoOften() {
        TripleTrains all = load(Made.FIFTEEN);
        int most = all.descend(20);
        for (int times = 1; times <= most + 1 && times <= 20; times++) {
            TripleTrains x = load(Made.FIFTEEN);
            due("times " + times, Math.min(times, most), x.descend(times));
            due("switched", Math.min(times, most), x.count(4));
            due("replaced", 4 * Math.min(times, most), x.count(6));
        }
    }

    @Says(at = 28, line = "This is one change.")
    private static void descendIsOneChange() {
        isChange(Made::fifteen, x -> x.descend(20));
        isChange(Made::fifteen, x -> x.descend(1));
        isChangeOfNothing(Made::full, x -> x.descend(20));
        isChangeOfNothing(Made::three, x -> x.descend(1));
    }

    @Says(at = 28, line = "Returns how many are switched.")
    private static void howManyDescended() {
        due("one", 1, load(Made.FIFTEEN).descend(1));
        due("two", 2, load(Made.FIFTEEN).descend(2));
        due("none", 0, new TripleTrains().descend(1));
    }

    @Says(at = 28, line = "1 to 20")
    private static void timesTaken() {
        for (int times = 1; times <= 20; times++) due("times " + times, 0, load(Made.NINE).descend(times));
    }

    @Says(at = 28, line = "Throws IllegalArgumentException if times is out of range")
    private static void timesRefused() {
        Refused.range(ARGUMENT, Made::full, 1, 20, TripleTrains::descend);
        Refused.range(ARGUMENT, Made::fifteen, 1, 20, TripleTrains::descend);
    }

    // ---- promises 29 to 33

    @Says(at = 29, line = "Returns the number.")
    private static void howManyCycles() {
        due("none of three", 0, new TripleTrains().cycles(0, 2));
        due("none without triples", 0, load("points 15;").cycles(13, 14));
        due("one of seven", 1, Made.full().cycles(6, 5));
        due("three of fifteen", 3, load(Made.FIFTEEN).cycles(14, 13));
        due("one of twelve points", 1, load(Made.TWELVE).cycles(1, 0));
        due("through the last points", 1, load("points 15;triple 0 11 12;triple 0 13 14;triple 1 12 13;triple 1 11 14;").cycles(0, 1));
        due("a way that ends", 0, load(Made.PASCH).cycles(0, 1));
    }

    @Says(at = 29, line = "Throws IndexOutOfBoundsException if there is no such point")
    private static void cyclesNoPoint() { Refused.noPoint(TripleTrains::cycles); }

    @Says(at = 29, line = "Throws IllegalArgumentException if both are the same")
    private static void cyclesSame() { Refused.samePoints(TripleTrains::cycles); }

    @Says(at = 30, line = "Returns the number of its points.")
    private static void lengths() {
        due("least", 4, Made.full().cycleLength(0, 1, 0));
        due("most", 12, load(Made.TWELVE).cycleLength(0, 1, 0));
        for (int c = 0; c < 3; c++) due("cycle " + c, 4, load(Made.FIFTEEN).cycleLength(0, 1, c));
    }

    @Says(at = 30, line = "Throws IndexOutOfBoundsException if there is no such point")
    private static void lengthNoPoint() {
        Refused.noPoint((x, a, b) -> x.cycleLength(a, b, 0));
        Refused.noPoint((x, a, b) -> x.cycleLength(a, b, -1));
    }

    @Says(at = 30, line = "Throws IllegalArgumentException if both are the same")
    private static void lengthSame() {
        Refused.samePoints((x, a, b) -> x.cycleLength(a, b, 0));
        Refused.samePoints((x, a, b) -> x.cycleLength(a, b, 3));
    }

    @Says(at = 30, line = "Throws NoSuchElementException if there is no such cycle")
    private static void lengthNoCycle() {
        Refused.range(ELEMENT, Made::full, 0, 0, (x, c) -> x.cycleLength(0, 1, c));
        Refused.range(ELEMENT, Made::fifteen, 0, 2, (x, c) -> x.cycleLength(13, 14, c));
        Refused.range(ELEMENT, Made::three, 0, -1, (x, c) -> x.cycleLength(1, 2, c));
        Refused.range(ELEMENT, of(Made.PASCH), 0, -1, (x, c) -> x.cycleLength(0, 1, c));
    }

    @Says(at = 31, line = "index in its row, from 0")
    private static void pointsOfRow() {
        int[] row = {2, 6, 5, 4};
        for (int i = 0; i < 4; i++) due("index " + i, row[i], Made.full().cyclePoint(0, 1, 0, i));
        due("the last one of twelve", 13, load(Made.TWELVE).cyclePoint(0, 1, 0, 11));
    }

    @Says(at = 31, line = "Returns the point.")
    private static void leastAndGreatestInRow() {
        TripleTrains x = load("points 15;triple 13 0 1;triple 13 2 3;triple 14 1 2;triple 14 3 0;");
        for (int i = 0; i < 4; i++) due("from 0, " + i, i, x.cyclePoint(13, 14, 0, i));
        due("to 14", 14, x.cyclePoint(0, 2, 0, x.cyclePoint(0, 2, 0, 1) == 14 ? 1 : 3));
    }

    @Says(at = 31, line = "Throws IndexOutOfBoundsException if there is no such point")
    private static void rowNoPoint() {
        Refused.noPoint((x, a, b) -> x.cyclePoint(a, b, 0, 0));
        Refused.noPoint((x, a, b) -> x.cyclePoint(a, b, -1, -1));
    }

    @Says(at = 31, line = "Throws IllegalArgumentException if both are the same")
    private static void rowSame() {
        Refused.samePoints((x, a, b) -> x.cyclePoint(a, b, 0, 0));
        Refused.samePoints((x, a, b) -> x.cyclePoint(a, b, 9, 99));
    }

    @Says(at = 31, line = "Throws NoSuchElementException if there is no such cycle")
    private static void rowNoCycle() {
        Refused.range(ELEMENT, Made::full, 0, 0, (x, c) -> x.cyclePoint(0, 1, c, 0));
        Refused.range(ELEMENT, Made::fifteen, 0, 2, (x, c) -> x.cyclePoint(13, 14, c, 3));
        Refused.range(ELEMENT, Made::three, 0, -1, (x, c) -> x.cyclePoint(1, 2, c, 0));
    }

    @Says(at = 31, line = "or index")
    private static void rowNoIndex() {
        Refused.range(ELEMENT, Made::full, 0, 3, (x, i) -> x.cyclePoint(0, 1, 0, i));
        Refused.range(ELEMENT, of(Made.TWELVE), 0, 11, (x, i) -> x.cyclePoint(0, 1, 0, i));
        for (int c = 0; c < 3; c++) {
            int cycle = c;
            Refused.range(ELEMENT, Made::fifteen, 0, 3, (x, i) -> x.cyclePoint(0, 1, cycle, i));
        }
    }

    @Says(at = 32, line = "Returns its length.")
    private static void lengthSwitched() {
        due("least", 4, load(Made.FIFTEEN).switchCycle(0, 14, 2));
        due("six", 6, load(SIX).switchCycle(1, 0, 0));
        due("most", 12, load(Made.TWELVE).switchCycle(0, 1, 0));
    }

    @Says(at = 32, line = "This is a change.")
    private static void cycleIsChange() {
        isChange(Made::full, x -> x.switchCycle(0, 1, 0));
        isChange(Made::fifteen, x -> x.switchCycle(14, 0, 2));
        isChange(of(Made.TWELVE), x -> x.switchCycle(0, 1, 0));
    }

    @Says(at = 32, line = "Throws IndexOutOfBoundsException if there is no such point")
    private static void switchNoPoint() { Refused.noPoint((x, a, b) -> x.switchCycle(a, b, 0)); }

    @Says(at = 32, line = "Throws IllegalArgumentException if both are the same")
    private static void switchSame() { Refused.samePoints((x, a, b) -> x.switchCycle(a, b, 0)); }

    @Says(at = 32, line = "Throws NoSuchElementException if there is no such cycle")
    private static void switchNoCycle() {
        Refused.range(ELEMENT, Made::full, 0, 0, (x, c) -> x.switchCycle(0, 1, c));
        Refused.range(ELEMENT, Made::fifteen, 0, 2, (x, c) -> x.switchCycle(13, 14, c));
        Refused.range(ELEMENT, Made::three, 0, -1, (x, c) -> x.switchCycle(1, 2, c));
    }

    @Says(at = 33, line = "Returns the number.")
    private static void cycleForecasts() {
        for (int c = 0; c < 3; c++) {
            TripleTrains x = load(Made.FIFTEEN);
            int want = x.wouldHaveBy(0, 1, c);
            x.switchCycle(0, 1, c);
            due("cycle " + c, x.count(3), want);
        }
        for (int a = 0; a < 13; a++) for (int b = 0; b < 13; b++) if (a != b) forecastsOf(a, b);
        due("back to all", 105, switched().wouldHaveBy(14, 0, 2));
        due("none", 0, load(Made.TWELVE).wouldHaveBy(0, 1, 0));
        changesNothing(Made::full, "a forecast", x -> x.wouldHaveBy(0, 1, 0));
    }

    private static void forecastsOf(int a, int b) {
        TripleTrains x = load(Made.THIRTEEN);
        int cycles = x.cycles(a, b);
        for (int c = 0; c < cycles; c++) {
            int want = x.wouldHaveBy(a, b, c);
            x.switchCycle(a, b, c);
            due("of thirteen, " + a + " " + b + " " + c, x.count(3), want);
            x.undo();
        }
    }

    private static TripleTrains switched() {
        TripleTrains x = load(Made.FIFTEEN);
        x.switchCycle(0, 14, 2);
        return x;
    }

    @Says(at = 33, line = "Throws IndexOutOfBoundsException if there is no such point")
    private static void forecastNoPoint() { Refused.noPoint((x, a, b) -> x.wouldHaveBy(a, b, 0)); }

    @Says(at = 33, line = "Throws IllegalArgumentException if both are the same")
    private static void forecastSame() { Refused.samePoints((x, a, b) -> x.wouldHaveBy(a, b, 0)); }

    @Says(at = 33, line = "Throws NoSuchElementException if there is no such cycle")
    private static void forecastNoCycle() {
        Refused.range(ELEMENT, Made::full, 0, 0, (x, c) -> x.wouldHaveBy(0, 1, c));
        Refused.range(ELEMENT, Made::fifteen, 0, 2, (x, c) -> x.wouldHaveBy(13, 14, c));
        Refused.range(ELEMENT, Made::three, 0, -1, (x, c) -> x.wouldHaveBy(1, 2, c));
    }

    // ---- promises 34 to 38

    @Says(at = 34, line = "of all pairs of points, each pair once.")
    private static void eachPairOnce() {
        due("three pairs of opposites", 3, load(Made.PASCH).cyclesOf(4));
        due("21 pairs", 21, Made.full().cyclesOf(4));
        due("36 pairs", 36, load(Made.NINE).cyclesOf(6));
        due("13 14, 0 2 and 1 3", 3, load("points 15;triple 13 0 1;triple 13 2 3;triple 14 1 2;triple 14 3 0;").cyclesOf(4));
    }

    @Says(at = 34, line = "Returns the number.")
    private static void cyclesOfLength() {
        due("none", 0, new TripleTrains().cyclesOf(4));
        due("most", 315, load(Made.FIFTEEN).cyclesOf(4));
        TripleTrains x = load(Made.TWELVE);
        int all = 0;
        for (int a = 0; a < 14; a++) for (int b = a + 1; b < 14; b++) all += x.cycles(a, b);
        for (int length = 4; length <= 12; length++) all -= x.cyclesOf(length);
        due("of all lengths", 0, all);
    }

    @Says(at = 34, line = "length: any int")
    private static void anyLength() {
        TripleTrains x = load(Made.FIFTEEN);
        for (int length : FAR) due("of " + length, 0, x.cyclesOf(length));
        for (int length = -6; length <= 20; length++) due("of " + length, length == 4 ? 315 : 0, x.cyclesOf(length));
        due("the longest", 1, load(Made.TWELVE).cyclesOf(12));
        due("no points to go on", 0, new TripleTrains().cyclesOf(0));
    }

    @Says(at = 35, line = "Returns the number.")
    private static void tradesOfVolume() {
        due("none", 0, new TripleTrains().trades(4));
        due("most", 105, load(Made.FIFTEEN).trades(4));
        due("of nine points, one for each pair", 36, load(Made.NINE).trades(6));
        due("none of four", 0, load(Made.NINE).trades(4));
        due("at the last points", 1, load("points 15;triple 9 10 11;triple 9 12 13;triple 10 12 14;triple 11 13 14;").trades(4));
    }

    @Says(at = 35, line = "volume: any int")
    private static void anyVolume() {
        TripleTrains x = load(Made.FIFTEEN);
        for (int volume : FAR) due("of " + volume, 0, x.trades(volume));
        for (int volume = -6; volume <= 20; volume++) due("of " + volume, volume == 4 ? 105 : 0, x.trades(volume));
        due("the greatest", 1, load(Made.TWELVE).trades(12));
        due("no cycle", 0, new TripleTrains().trades(0));
    }

    @Says(at = 36, line = "index of the trade by this set as a bit mask (bit k for triple k), the smallest first, from 0")
    private static void tradesRise() {
        TripleTrains x = load(Made.FIFTEEN);
        long before = 0L;
        for (int i = 0; i < 105; i++) {
            long now = x.trade(4, i);
            is("rises to " + i, true, now > before);
            due("bits", 4, Long.bitCount(now));
            before = now;
        }
        due("with the last triple", 34, 63 - Long.numberOfLeadingZeros(before));
        TripleTrains y = load(Made.FANO);
        Check.due("the first", 30L, y.trade(4, 0));
        Check.due("the last", 120L, y.trade(4, 6));
    }

    @Says(at = 36, line = "Returns the bit mask.")
    private static void masks() {
        Check.due("the first four triples", 15L, load(Made.PASCH).trade(4, 0));
        is("triples beyond 31", true, load(Made.FIFTEEN).trade(4, 104) >= 1L << 34);
    }

    @Says(at = 36, line = "volume: any int")
    private static void tradeOfAnyVolume() {
        for (int volume : FAR) Refused.with(ELEMENT, Made::full, "volume " + volume, x -> x.trade(volume, 0));
        for (int volume : new int[] {0, 3, 5, 6}) Refused.with(ELEMENT, Made::full, "volume " + volume, x -> x.trade(volume, 0));
        Check.due("the greatest", 4095L, load(Made.TWELVE).trade(12, 0));
    }

    @Says(at = 36, line = "Throws NoSuchElementException if there is no such trade")
    private static void noTrade() {
        Refused.range(ELEMENT, Made::full, 0, 6, (x, i) -> x.trade(4, i));
        Refused.range(ELEMENT, Made::fifteen, 0, 104, (x, i) -> x.trade(4, i));
        Refused.range(ELEMENT, of(Made.TWELVE), 0, 0, (x, i) -> x.trade(12, i));
        Refused.range(ELEMENT, Made::three, 0, -1, (x, i) -> x.trade(4, i));
    }

    @Says(at = 37, line = "Counts the pairs of points for which all other points but their third point (all other points, if they are not covered) are one cycle.")
    private static void perfectPairs() {
        due("all of seven", 21, Made.full().perfectPairs());
        due("all of nine", 36, load(Made.NINE).perfectPairs());
        due("none of fifteen", 0, load(Made.FIFTEEN).perfectPairs());
        due("not covered, six others", 1, load(SIX).perfectPairs());
        due("not covered, twelve others", 1, load(Made.TWELVE).perfectPairs());
        TripleTrains last = load(Made.TWELVE);
        last.turn(12);
        due("the last two points", 1, last.perfectPairs());
        due("covered, twelve others", 1, load(Made.TWELVE.replace("14", "15") + "triple 0 1 14;").perfectPairs());
        due("one point is left over", 0, load(Made.TWELVE.replace("14", "15")).perfectPairs());
        due("one cycle, and points left over", 0, load(Made.PASCH.replace("6;", "7;")).perfectPairs());
        due("two cycles of all", 0, load("points 10;triple 0 2 3;triple 1 3 4;triple 0 4 5;triple 1 5 2;"
            + "triple 0 6 7;triple 1 7 8;triple 0 8 9;triple 1 9 6;").perfectPairs());
    }

    @Says(at = 37, line = "0 for fewer than 7 points.")
    private static void fewerThanSeven() {
        due("six, though one cycle each", 0, load(Made.PASCH).perfectPairs());
        due("the same is one cycle of all others", 4, load(Made.PASCH).cycleLength(0, 5, 0));
        due("three", 0, load("points 3;triple 0 1 2;").perfectPairs());
        due("five", 0, load("points 5;triple 0 1 2;triple 0 3 4;").perfectPairs());
        due("seven count", 21, load(Made.FANO).perfectPairs());
    }

    @Says(at = 38, line = "Returns true if so.")
    private static void agrees() {
        for (String text : new String[] {"points 3;", Made.PASCH, Made.FANO, Made.NINE, Made.FIFTEEN, Made.THIRTEEN, Made.TWELVE, SIX})
            is(text, true, load(text).agrees());
        is("behind switches", true, uneven().agrees());
    }

    public static void main(String[] args) { run(SwitchEdgesTest.class); }
}
