/** The edges of systems and turns, and of promises 7 to 20. */
public final class SystemEdgesTest extends Edges {
    /** Each of the three points in each place. */
    private static final int[][] ORDERS = {{0, 1, 2}, {0, 2, 1}, {1, 0, 2}, {1, 2, 0}, {2, 0, 1}, {2, 1, 0}};

    /** Triples put in one by one until so many stand, the first ones of a filling. */
    private static TripleTrains filled(String text, int triples) {
        TripleTrains x = load(text);
        x.fill();
        while (x.count(1) > triples) x.remove(x.count(1) - 1);
        due("triples for the test", triples, x.count(1));
        return x;
    }

    // ---- terms

    @Says(at = 0, line = "three different points each, in any order")
    private static void anyOrder() {
        for (int[] o : ORDERS) {
            TripleTrains x = load("points 3;triple " + o[0] + " " + o[1] + " " + o[2] + ";");
            for (int i = 0; i < 3; i++) due("point " + i, i, x.triple(0, i));
        }
    }

    @Says(at = 0, line = "every pair of points stands together in at most one of them")
    private static void atMostOne() {
        int[][] more = {{0, 1, 2}, {0, 1, 3}, {1, 2, 3}, {0, 2, 6}};
        for (int[] m : more) Refused.with(STATE, () -> load("points 7;triple 0 1 2;"), "add", x -> x.add(m[0], m[1], m[2]));
        due("one point in common", 1, load("points 7;triple 0 1 2;").add(0, 3, 4));
    }

    @Says(at = 0, line = "the pair is covered then.")
    private static void coveredPairs() {
        TripleTrains x = load("points 4;triple 0 1 3;");
        due("0 1", 3, x.third(0, 1));
        due("0 3", 1, x.third(0, 3));
        due("1 3", 0, x.third(1, 3));
        for (int p : new int[] {0, 1, 3}) due("2 and " + p, -1, x.third(2, p));
    }

    @Says(at = 0, line = "A system is complete if all pairs are covered.")
    private static void complete() {
        for (String text : new String[] {Made.FANO, Made.NINE, Made.THIRTEEN, Made.FIFTEEN, "points 3;triple 0 1 2;"}) {
            TripleTrains x = load(text);
            is(text, true, x.isComplete());
            x.remove(x.count(1) - 1);
            is("one less of " + text, false, x.isComplete());
        }
    }

    @Says(at = 0, line = "Its triples are numbered from 0 in lexicographic order of their points, each with its points rising")
    private static void numbersOfTriples() {
        TripleTrains x = load("points 15;triple 14 13 12;triple 9 0 12;triple 0 1 14;triple 10 2 1;triple 11 1 3;");
        int[][] want = {{0, 1, 14}, {0, 9, 12}, {1, 2, 10}, {1, 3, 11}, {12, 13, 14}};
        for (int t = 0; t < 5; t++)
            for (int i = 0; i < 3; i++) due("triple " + t + ", point " + i, want[t][i], x.triple(t, i));
        TripleTrains y = load(Made.FIFTEEN);
        int before = -1;
        for (int t = 0; t < 35; t++) {
            int now = 256 * y.triple(t, 0) + 16 * y.triple(t, 1) + y.triple(t, 2);
            is("rises to " + t, true, now > before);
            before = now;
        }
    }

    @Says(at = 0, line = "all numbers of triples are those that they have now.")
    private static void numbersNow() {
        TripleTrains x = load("points 9;triple 0 4 8;triple 5 6 7;");
        due("the last", 1, x.find(5, 6, 7));
        due("the new first", 0, x.add(0, 1, 2));
        due("the last now", 2, x.find(5, 6, 7));
        due("two are left", 2, x.remove(0));
        due("the last again", 1, x.find(5, 6, 7));
        x.turn(4);
        due("it is 0 1 2 now", 0, x.find(0, 1, 2));
    }

    @Says(at = 0, line = "none if they are not covered.")
    private static void noThird() {
        TripleTrains x = Made.open();
        for (int[] p : new int[][] {{3, 4}, {3, 6}, {4, 6}, {6, 3}}) due(p[0] + " " + p[1], -1, x.third(p[0], p[1]));
        due("covered", 5, x.third(6, 1));
    }

    @Says(at = 0, line = "The third point of two different points is the other one of the triple that covers them")
    private static void otherPoint() {
        for (int v = 3; v <= 15; v++) inItself("filled " + v, filled("points " + v + ";", fillOf(v)));
        TripleTrains x = load("points 15;triple 0 7 14;");
        for (int[] o : ORDERS) due("of " + 7 * o[0] + " and " + 7 * o[1], 7 * o[2], x.third(7 * o[0], 7 * o[1]));
    }

    @Says(at = 0, line = "A turn by k (any whole number) leads from each point p to p + k modulo V, and from triples likewise.")
    private static void turnsWrap() {
        int[][] turns = {{0, 3}, {1, 4}, {3, 6}, {4, 0}, {6, 2}, {7, 3}, {8, 4}, {-1, 2}, {-3, 0}, {-4, 6}, {-7, 3}, {-8, 2},
            {Integer.MIN_VALUE, 1}, {Integer.MAX_VALUE, 4}, {Integer.MIN_VALUE + 1, 2}};
        for (int[] turn : turns) {
            TripleTrains x = load("points 7;triple 3 4 6;");
            x.turn(turn[0]);
            int p = turn[1];
            due("by " + turn[0], 0, x.find(p, (p + 1) % 7, (p + 3) % 7));
        }
        TripleTrains y = load("points 15;triple 12 13 14;");
        y.turn(1);
        due("the last point comes first", 0, y.find(13, 14, 0));
        y.turn(-15 * 1000000 - 1);
        due("and goes back", 0, y.find(12, 13, 14));
    }

    @Says(at = 0, line = "Developing a triple adds all that turns lead to from it.")
    private static void allTurns() {
        TripleTrains x = load("points 15;");
        x.develop(14, 0, 3);
        for (int k = 0; k < 15; k++) is("turn " + k, true, x.find((14 + k) % 15, k, (3 + k) % 15) >= 0);
        due("no more", 15, x.count(1));
    }

    // ---- promise 7

    @Says(at = 7, line = "0 the points")
    private static void countPoints() {
        due("least", 3, new TripleTrains().count(0));
        due("most", 15, load("points 15;").count(0));
    }

    @Says(at = 7, line = "1 the triples")
    private static void countTriples() {
        due("none", 0, new TripleTrains().count(1));
        due("all", 35, load(Made.FIFTEEN).count(1));
    }

    @Says(at = 7, line = "2 the pairs that are not covered")
    private static void countOpen() {
        due("none", 0, load(Made.FIFTEEN).count(2));
        due("all of three", 3, new TripleTrains().count(2));
        due("all of fifteen", 105, load("points 15;").count(2));
        due("but three", 102, load("points 15;triple 0 1 14;").count(2));
    }

    @Says(at = 7, line = "3 the quadrilaterals")
    private static void countQuads() {
        due("none", 0, load(Made.NINE).count(3));
        due("one", 1, load(Made.PASCH).count(3));
        due("all", 105, load(Made.FIFTEEN).count(3));
    }

    @Says(at = 7, line = "4 the quadrilaterals that were switched, also by descend")
    private static void countSwitched() {
        TripleTrains x = load(Made.FIFTEEN);
        due("none", 0, x.count(4));
        x.switchQuad(104);
        due("one", 1, x.count(4));
        int more = x.descend(2);
        due("by descend, too", 2, more);
        due("three", 3, x.count(4));
        x.switchCycle(0, 1, 0);
        due("cycles do not count", 3, x.count(4));
    }

    @Says(at = 7, line = "5 the cycles that were switched")
    private static void countCycles() {
        TripleTrains x = load(Made.FIFTEEN);
        due("none", 0, x.count(5));
        x.switchCycle(0, 1, 0);
        x.switchCycle(13, 14, 0);
        due("two", 2, x.count(5));
        x.switchQuad(0);
        due("quadrilaterals do not count", 2, x.count(5));
    }

    @Says(at = 7, line = "6 the triples that the switches of both replaced")
    private static void countReplaced() {
        TripleTrains x = load(Made.TWELVE);
        due("none", 0, x.count(6));
        x.switchCycle(0, 1, 0);
        due("twelve", 12, x.count(6));
        TripleTrains y = load(Made.FIFTEEN);
        y.switchQuad(0);
        y.descend(1);
        due("four and four", 8, y.count(6));
        y.swap(0, 1);
        y.turn(1);
        y.force(0, 1, y.third(0, 1) == 2 ? 3 : 2);
        due("no switches", 8, y.count(6));
    }

    @Says(at = 7, line = "7 the changes that can be undone")
    private static void countChanges() {
        TripleTrains x = new TripleTrains();
        for (int i = 0; i <= 12; i++) {
            due("behind " + i, Math.min(i, 10), x.count(7));
            x.fill();
        }
        x.undo();
        due("one undone", 9, x.count(7));
    }

    @Says(at = 7, line = "4 to 6 belong to what is undone and saved")
    private static void countsGoBack() {
        TripleTrains x = load(Made.FIFTEEN);
        x.switchQuad(0);
        x.saveState();
        x.switchCycle(0, 1, 0);
        x.descend(1);
        x.undo();
        x.undo();
        int[] saved = {1, 0, 4};
        for (int i = 0; i < 3; i++) due("undone, " + (4 + i), saved[i], x.count(4 + i));
        x.undo();
        for (int i = 0; i < 3; i++) due("all undone, " + (4 + i), 0, x.count(4 + i));
        x.restoreState();
        for (int i = 0; i < 3; i++) due("restored, " + (4 + i), saved[i], x.count(4 + i));
    }

    @Says(at = 7, line = "Returns the number.")
    private static void allCounts() {
        int[] want = {7, 6, 3, 3, 2, 2, 16, 5};
        for (int what = 0; what < 8; what++) due("number " + what, want[what], Made.open().count(what));
    }

    @Says(at = 7, line = "Throws IllegalArgumentException if what is out of range")
    private static void countOutOfRange() { Refused.range(ARGUMENT, Made::full, 0, 7, TripleTrains::count); }

    // ---- promises 8 to 14

    @Says(at = 8, line = "Returns true if so.")
    private static void isComplete() {
        TripleTrains x = new TripleTrains();
        is("nothing of three", false, x.isComplete());
        x.add(0, 1, 2);
        is("all of three", true, x.isComplete());
        for (int v : new int[] {4, 5, 6, 8, 10, 11, 12, 14}) is("filled " + v, false, filled("points " + v + ";", fillOf(v)).isComplete());
        is("but one", false, Made.open().isComplete());
    }

    private static int fillOf(int v) {
        TripleTrains x = load("points " + v + ";");
        return x.fill();
    }

    @Says(at = 9, line = "0 the smallest, 1 the middle, 2 the greatest point")
    private static void pointsOfTriple() {
        TripleTrains x = load("points 15;triple 14 0 7;");
        for (int i = 0; i < 3; i++) due("point " + i, 7 * i, x.triple(0, i));
    }

    @Says(at = 9, line = "Returns the point.")
    private static void leastAndGreatestPoint() {
        TripleTrains x = load(Made.FIFTEEN);
        due("the least point, of the first triple", 0, x.triple(0, 0));
        due("the greatest point, of the first triple that holds it", 14, x.triple(x.find(0, 14, x.third(0, 14)), 2));
        int[] last = {x.triple(34, 0), x.triple(34, 1), x.triple(34, 2)};
        for (int[] o : ORDERS) due("the last triple", last[o[2]], x.third(last[o[0]], last[o[1]]));
    }

    @Says(at = 9, line = "Throws IndexOutOfBoundsException if there is no such triple")
    private static void tripleThere() {
        Refused.noTriple((x, t) -> x.triple(t, 0));
        Refused.noTriple((x, t) -> x.triple(t, 2));
    }

    @Says(at = 9, line = "Throws IllegalArgumentException if index is out of range")
    private static void indexOfPoint() {
        Refused.range(ARGUMENT, Made::full, 0, 2, (x, i) -> x.triple(0, i));
        Refused.range(ARGUMENT, Made::full, 0, 2, (x, i) -> x.triple(6, i));
        Refused.with(INDEX, Made::full, "both", x -> x.triple(7, 3));
        Refused.with(INDEX, Made::full, "both", x -> x.triple(-1, -1));
        Refused.with(INDEX, Made::three, "no triple at all", x -> x.triple(0, 3));
    }

    @Says(at = 10, line = "Finds a triple by its points, in any order.")
    private static void findInAnyOrder() {
        TripleTrains x = load(Made.FIFTEEN);
        int[][] ends = {{x.triple(0, 0), x.triple(0, 1), x.triple(0, 2)}, {x.triple(34, 0), x.triple(34, 1), x.triple(34, 2)}};
        for (int[] o : ORDERS) {
            due("the first", 0, x.find(ends[0][o[0]], ends[0][o[1]], ends[0][o[2]]));
            due("the last", 34, x.find(ends[1][o[0]], ends[1][o[1]], ends[1][o[2]]));
        }
    }

    @Says(at = 10, line = "Returns its number")
    private static void numberFound() {
        TripleTrains x = load(Made.FIFTEEN);
        for (int t = 0; t < 35; t++) due("triple " + t, t, x.find(x.triple(t, 1), x.triple(t, 0), x.triple(t, 2)));
    }

    @Says(at = 10, line = "-1 if it is not in the system.")
    private static void notFound() {
        due("nothing is", -1, new TripleTrains().find(0, 1, 2));
        TripleTrains x = Made.full();
        due("two of 0 1 3", -1, x.find(0, 1, 2));
        due("two of 0 1 3, behind", -1, x.find(1, 3, 6));
        due("no longer", -1, Made.open().find(3, 4, 6));
    }

    @Says(at = 10, line = "Throws IndexOutOfBoundsException if there is no such point")
    private static void findNoPoint() { Refused.noPoint(TripleTrains::find); }

    @Says(at = 10, line = "Throws IllegalArgumentException if two of them are the same")
    private static void findSame() { Refused.samePoints(TripleTrains::find); }

    @Says(at = 11, line = "Returns the point")
    private static void thirdOfCoveredPair() {
        TripleTrains x = load("points 15;triple 14 13 0;");
        due("the least", 0, x.third(13, 14));
        due("the greatest", 14, x.third(0, 13));
        due("the middle one", 13, x.third(14, 0));
    }

    @Says(at = 11, line = "-1 if they are not covered.")
    private static void thirdOfOpenPair() {
        due("nothing is", -1, new TripleTrains().third(0, 2));
        due("open", -1, Made.open().third(6, 4));
        due("nothing of fifteen", -1, load("points 15;").third(14, 13));
        due("covered", 3, Made.full().third(6, 4));
    }

    @Says(at = 11, line = "Throws IndexOutOfBoundsException if there is no such point")
    private static void thirdNoPoint() { Refused.noPoint(TripleTrains::third); }

    @Says(at = 11, line = "Throws IllegalArgumentException if both are the same")
    private static void thirdSame() { Refused.samePoints(TripleTrains::third); }

    @Says(at = 12, line = "Returns the number.")
    private static void degrees() {
        for (int p = 0; p < 15; p++) {
            due("most at " + p, 7, load(Made.FIFTEEN).degree(p));
            due("none at " + p, 0, load("points 15;").degree(p));
        }
        TripleTrains x = Made.open();
        int[] want = {3, 3, 3, 2, 2, 3, 2};
        for (int p = 0; p < 7; p++) due("at " + p, want[p], x.degree(p));
    }

    @Says(at = 12, line = "Throws IndexOutOfBoundsException if there is no such point")
    private static void degreeNoPoint() { Refused.noPoint(TripleTrains::degree); }

    @Says(at = 13, line = "index of the pair, from 0")
    private static void openPairs() {
        TripleTrains x = load("points 15;");
        int index = 0;
        for (int a = 0; a < 15; a++)
            for (int b = a + 1; b < 15; b++) due("pair " + index, 16 * a + b, x.uncovered(index++));
        TripleTrains y = Made.open();
        due("first", 16 * 3 + 4, y.uncovered(0));
        due("second", 16 * 3 + 6, y.uncovered(1));
        due("third", 16 * 4 + 6, y.uncovered(2));
    }

    @Says(at = 13, line = "Returns 16 * the smaller point + the greater point")
    private static void pairAsNumber() {
        due("0 1", 1, new TripleTrains().uncovered(0));
        due("1 2", 18, new TripleTrains().uncovered(2));
        due("13 14", 222, load("points 15;").uncovered(104));
    }

    @Says(at = 13, line = "-1 if there are not so many.")
    private static void noOpenPair() {
        due("three", -1, Made.open().uncovered(3));
        due("three of three", -1, new TripleTrains().uncovered(3));
        due("105", -1, load("points 15;").uncovered(105));
        due("the greatest", -1, load("points 15;").uncovered(Integer.MAX_VALUE));
        due("complete", -1, Made.full().uncovered(0));
    }

    @Says(at = 13, line = "Throws IndexOutOfBoundsException if index is negative")
    private static void negativePair() {
        for (int i : new int[] {-1, -105, Integer.MIN_VALUE}) {
            Refused.with(INDEX, Made::open, "pair " + i, x -> x.uncovered(i));
            Refused.with(INDEX, Made::full, "pair " + i, x -> x.uncovered(i));
        }
        Refused.taken(INDEX, Made::full, "pair 0", x -> x.uncovered(0));
    }

    @Says(at = 14, line = "Returns 0 if it can")
    private static void canBeAdded() {
        due("nothing is there", 0, new TripleTrains().reason(2, 1, 0));
        due("the one that lacks", 0, Made.open().reason(6, 3, 4));
    }

    @Says(at = 14, line = "1 if it is in the system")
    private static void isThere() {
        due("the first", 1, Made.full().reason(3, 1, 0));
        due("the last", 1, Made.full().reason(4, 6, 3));
    }

    @Says(at = 14, line = "otherwise 1 plus the number of its pairs that are covered.")
    private static void pairsInTheWay() {
        TripleTrains x = load("points 9;triple 0 1 3;triple 1 2 4;triple 0 2 5;");
        due("one", 2, x.reason(0, 1, 6));
        due("one, the last pair", 2, x.reason(8, 0, 5));
        due("two", 3, x.reason(1, 0, 4));
        due("three", 4, x.reason(2, 0, 1));
    }

    @Says(at = 14, line = "Throws IndexOutOfBoundsException if there is no such point")
    private static void reasonNoPoint() { Refused.noPoint(TripleTrains::reason); }

    @Says(at = 14, line = "Throws IllegalArgumentException if two of them are the same")
    private static void reasonSame() { Refused.samePoints(TripleTrains::reason); }

    // ---- promises 15 to 17

    @Says(at = 15, line = "Returns its number.")
    private static void numberAdded() {
        TripleTrains x = load("points 15;triple 1 2 3;");
        due("first", 0, x.add(2, 14, 0));
        due("last", 2, x.add(14, 12, 13));
        due("between", 1, x.add(4, 3, 0));
        due("the last triple that fits", 6, Made.open().add(3, 4, 6));
    }

    @Says(at = 15, line = "This is a change.")
    private static void addIsChange() {
        isChange(Made::open, x -> x.add(4, 6, 3));
        isChange(Made::three, x -> x.add(0, 1, 2));
    }

    @Says(at = 15, line = "Throws IndexOutOfBoundsException if there is no such point")
    private static void addNoPoint() { Refused.noPoint(TripleTrains::add); }

    @Says(at = 15, line = "Throws IllegalArgumentException if two of them are the same")
    private static void addSame() { Refused.samePoints(TripleTrains::add); }

    @Says(at = 15, line = "Throws IllegalStateException if it cannot be added (see reason)")
    private static void addCovered() {
        for (int[] p : new int[][] {{0, 1, 3}, {3, 0, 1}, {0, 1, 2}, {2, 1, 0}, {4, 5, 6}, {3, 4, 5}, {6, 3, 0}})
            for (int full = 0; full < 2; full++)
                Refused.with(STATE, full == 1 ? Made::full : Made::open, "add", x -> x.add(p[0], p[1], p[2]));
        Refused.with(STATE, Made::full, "the last", x -> x.add(3, 4, 6));
        Refused.taken(STATE, Made::open, "the last", x -> x.add(3, 4, 6));
    }

    @Says(at = 16, line = "Returns the number of triples then.")
    private static void triplesLeft() {
        TripleTrains x = Made.full();
        for (int left = 6; left >= 0; left--) due("left", left, x.remove(left % 2 == 0 ? left : 0));
        due("most", 34, load(Made.FIFTEEN).remove(34));
        due("0 1 3 went", -1, removed(0).find(0, 1, 3));
        due("3 4 6 went", -1, removed(6).find(3, 4, 6));
        due("1 2 4 went", -1, removed(3).find(1, 2, 4));
    }

    private static TripleTrains removed(int triple) {
        TripleTrains x = load(Made.FANO);
        x.remove(triple);
        due("covers no longer", 3, x.count(2));
        return x;
    }

    @Says(at = 16, line = "This is a change.")
    private static void removeIsChange() {
        isChange(Made::full, x -> x.remove(0));
        isChange(Made::full, x -> x.remove(6));
    }

    @Says(at = 16, line = "Throws IndexOutOfBoundsException if there is no such triple")
    private static void removeNoTriple() { Refused.noTriple(TripleTrains::remove); }

    @Says(at = 17, line = "adds it and all that turns lead to from it, each once.")
    private static void eachOnce() {
        for (int v : new int[] {3, 6, 9, 12, 15}) {
            TripleTrains x = load("points " + v + ";");
            due("a third of " + v, v / 3, x.develop(v - 1, v / 3 - 1, 2 * v / 3 - 1));
            due("triples", v / 3, x.count(1));
        }
    }

    @Says(at = 17, line = "Returns how many triples are added.")
    private static void howManyDeveloped() {
        TripleTrains x = load("points 15;");
        due("a full turn", 15, x.develop(0, 1, 4));
        due("one more", 15, x.develop(8, 0, 2));
        due("a third", 5, x.develop(10, 5, 0));
        due("seven", 7, load("points 7;").develop(6, 0, 2));
        due("one", 1, new TripleTrains().develop(2, 0, 1));
    }

    @Says(at = 17, line = "This is a change.")
    private static void developIsChange() {
        isChange(Made::three, x -> x.develop(0, 1, 2));
        isChange(() -> load("points 7;"), x -> x.develop(0, 1, 3));
        isChange(Made::bare, x -> x.develop(0, 5, 10));
    }

    @Says(at = 17, line = "Throws IndexOutOfBoundsException if there is no such point")
    private static void developNoPoint() { Refused.noPoint(TripleTrains::develop); }

    @Says(at = 17, line = "Throws IllegalArgumentException if two of them are the same")
    private static void developSame() { Refused.samePoints(TripleTrains::develop); }

    @Says(at = 17, line = "Throws IllegalStateException if one of these pairs is covered")
    private static void developCovered() {
        Refused.with(STATE, Made::full, "the same again", x -> x.develop(0, 1, 3));
        Refused.with(STATE, Made::open, "all but one there", x -> x.develop(3, 4, 6));
        Refused.with(STATE, () -> load("points 7;triple 0 1 3;"), "itself there", x -> x.develop(0, 1, 3));
        Refused.with(STATE, () -> load("points 7;triple 4 5 6;"), "in the way of a later turn", x -> x.develop(0, 1, 3));
        Refused.with(STATE, () -> load("points 15;triple 4 9 13;"), "in the way of the last turn", x -> x.develop(0, 5, 10));
        Refused.with(STATE, () -> load("points 15;triple 4 9 14;"), "the last turn there", x -> x.develop(0, 5, 10));
    }

    @Says(at = 17, line = "or would be covered twice")
    private static void developTwice() {
        Refused.with(STATE, () -> load("points 7;"), "0 1 2", x -> x.develop(0, 1, 2));
        Refused.with(STATE, () -> load("points 6;"), "0 1 3", x -> x.develop(0, 1, 3));
        Refused.with(STATE, () -> load("points 4;"), "1 2 3", x -> x.develop(1, 2, 3));
        Refused.with(STATE, Made::bare, "0 7 14", x -> x.develop(0, 7, 14));
        Refused.with(STATE, () -> load("points 14;"), "0 1 7", x -> x.develop(0, 1, 7));
    }

    // ---- promises 18 to 20

    @Says(at = 18, line = "Adds triples as long as one can be added, each time the first one in lexicographic order that can.")
    private static void fillsInOrder() {
        TripleTrains x = load("points 15;");
        x.fill();
        // The first ones that fit are the lines of the space: what is added to their points' numbers cancels out.
        for (int a = 0; a < 15; a++)
            for (int b = a + 1; b < 15; b++) due(a + " " + b, (a + 1 ^ b + 1) - 1, x.third(a, b));
        TripleTrains y = load("points 7;triple 0 5 6;");
        y.fill();
        int[][] want = {{0, 1, 2}, {0, 3, 4}, {0, 5, 6}, {1, 3, 5}, {1, 4, 6}, {2, 3, 6}, {2, 4, 5}};
        for (int t = 0; t < 7; t++) due("triple " + t, t, y.find(want[t][0], want[t][1], want[t][2]));
    }

    @Says(at = 18, line = "Returns how many triples are added.")
    private static void howManyFilled() {
        due("all", 35, load("points 15;").fill());
        due("one of three", 1, new TripleTrains().fill());
        due("one of four", 1, load("points 4;").fill());
        due("two of five", 2, load("points 5;").fill());
        due("the last one", 1, Made.open().fill());
        due("none", 0, Made.full().fill());
    }

    @Says(at = 18, line = "This is a change.")
    private static void fillIsChange() {
        isChange(Made::open, TripleTrains::fill);
        isChange(Made::bare, TripleTrains::fill);
        isChangeOfNothing(Made::full, TripleTrains::fill);
        isChangeOfNothing(() -> load("points 4;triple 0 1 2;"), TripleTrains::fill);
    }

    @Says(at = 19, line = "Returns the number")
    private static void completions() {
        due("none of four", 0, load("points 4;").completions());
        due("none of eight, 28 pairs", 0, load("points 8;").completions());
        due("one of three", 1, new TripleTrains().completions());
        due("the last one", 1, Made.open().completions());
        due("thirty of seven", 30, load("points 7;").completions());
        due("six with one triple", 6, load("points 7;triple 0 1 2;").completions());
        due("two with three through a point", 2, load("points 7;triple 0 1 2;triple 0 3 4;triple 0 5 6;").completions());
        due("the five apart", 1, load("points 15;develop 0 1 4;develop 0 2 8;").completions());
        TripleTrains x = load("points 7;triple 0 1 2;triple 3 4 5;");
        due("three points of 6 lack", 0, x.completions());
        TripleTrains y = load("points 9;triple 0 5 7;triple 1 4 7;triple 3 4 5;triple 6 7 8;");
        due("2 7 is the tightest pair", 16 * 2 + 7, y.tightest());
        due("one of two with 0 2 8", 2, y.completions());
    }

    @Says(at = 19, line = "1 if it is complete, the empty set")
    private static void completeAlready() {
        due("seven", 1, Made.full().completions());
        due("fifteen", 1, load(Made.FIFTEEN).completions());
        due("three", 1, load("points 3;triple 0 1 2;").completions());
    }

    @Says(at = 19, line = "-2 if more than 30 pairs are not covered.")
    private static void tooManyToCount() {
        due("105", -2, load("points 15;").completions());
        due("33 of nine", -2, load("points 9;triple 0 1 2;").completions());
        due("30 of nine", 12, load("points 9;triple 0 1 2;triple 3 4 5;").completions());
        due("31 of eleven", -2, filled("points 11;", 8).completions());
        due("28 of eleven", 0, filled("points 11;", 9).completions());
        due("31 of fourteen", -2, filled("points 14;", 20).completions());
        due("30 of ten", 0, filled("points 10;", 5).completions());
        is("30 of fifteen", true, filled("points 15;", 25).completions() >= 1);
        due("33 of fifteen", -2, filled("points 15;", 24).completions());
    }

    @Says(at = 20, line = "the first pair that is not covered and stands in the fewest triples that can be added.")
    private static void tightestPairs() {
        due("all the same", 1, load("points 15;").tightest());
        due("of three", 1, new TripleTrains().tightest());
        due("the last triple", 16 * 3 + 4, Made.open().tightest());
        due("in none, first", 16 * 0 + 3, load("points 4;triple 0 1 2;").tightest());
        due("fewer, behind others", 16 * 0 + 4, load("points 7;triple 4 5 6;").tightest());
        due("in none, behind others", 16 * 6 + 8, load("points 9;triple 8 0 1;triple 8 2 3;triple 8 4 5;triple 7 6 0;").tightest());
        due("the last pair", 16 * 13 + 14, load("points 15;triple 13 0 1;triple 13 2 3;triple 13 4 5;triple 14 6 7;"
            + "triple 14 8 9;triple 14 10 11;triple 13 6 12;").tightest());
    }

    @Says(at = 20, line = "Returns 16 * the smaller point + the greater point")
    private static void tightestAsNumber() {
        due("0 1", 1, load("points 15;").tightest());
        due("0 2", 2, load("points 4;triple 0 1 3;").tightest());
        due("3 4", 52, Made.open().tightest());
    }

    @Says(at = 20, line = "-1 if the system is complete.")
    private static void noTightest() {
        due("seven", -1, Made.full().tightest());
        due("fifteen", -1, load(Made.FIFTEEN).tightest());
        due("three", -1, load("points 3;triple 0 1 2;").tightest());
        due("nothing fits, not complete", 3, load("points 4;triple 0 1 2;").tightest());
    }

    public static void main(String[] args) { run(SystemEdgesTest.class); }
}
