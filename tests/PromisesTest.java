import java.util.NoSuchElementException;

/** For each promise: ordinary calls, the edges that the document names, and wrong arguments. */
public final class PromisesTest {
    private static final Class<?> INDEX = IndexOutOfBoundsException.class;
    private static final Class<?> ARGUMENT = IllegalArgumentException.class;
    private static final Class<?> STATE = IllegalStateException.class;
    private static final Class<?> ELEMENT = NoSuchElementException.class;

    private static final String FANO = "points 7;develop 0 1 3;";
    private static final String NINE = "points 9;develop 0 3 6;triple 0 1 2;triple 3 4 5;triple 6 7 8;"
        + "triple 0 4 8;triple 1 5 6;triple 2 3 7;triple 0 5 7;triple 1 3 8;triple 2 4 6;";
    private static final String THIRTEEN = "points 13;develop 0 1 4;develop 0 2 7;";
    private static final String FIFTEEN = "points 15;develop 0 5 10;develop 0 1 4;develop 0 2 8;";
    private static final String PASCH = "points 6;triple 0 1 2;triple 0 3 4;triple 1 3 5;triple 2 4 5;";

    private static TripleTrains load(String text) { return Check.loaded(text); }

    private static void due(String what, long want, long got) { Check.due(what, want, got); }

    private static void is(String what, boolean want, boolean got) { Check.due(what, want, got); }

    private static void fails(String what, Class<?> want, Check.Call call) { Check.dueThrow(what, want, call); }

    /** What load answers, its error and the offset, in one text. */
    private static void loads(String text, int answer, int code, int offset) {
        TripleTrains x = new TripleTrains();
        Check.input(x, text);
        String got = x.loadSystem() + " " + x.errorCode() + " " + x.errorOffset();
        Check.due("load of '" + text + "'", answer + " " + code + " " + offset, got);
    }

    private static void newObject() {
        TripleTrains x = new TripleTrains();
        due("1: points", 3, x.count(0));
        for (int what = 1; what < 8; what++) due("1: count " + what, what == 2 ? 3 : 0, x.count(what));
        due("1: error", 0, x.errorCode());
        due("1: offset", -1, x.errorOffset());
        due("1: output", -1, x.outputByte(0));
        due("1: undo", -1, x.undo());
        fails("1: no state", STATE, x::restoreState);
        is("1: input is empty", false, x.truncateInput(1));
    }

    private static void inputBuffer() {
        TripleTrains x = new TripleTrains();
        for (int i = 1; i <= 30; i++) due("2: append " + i, 20 * i, x.appendInput(i, -1, 0, 7, 9));
        due("2: full", -1, x.appendInput(0, 0, 0, 0, 0));
        is("3: negative", false, x.truncateInput(-1));
        is("3: too long", false, x.truncateInput(601));
        is("3: the same length", true, x.truncateInput(600));
        is("3: shorter", true, x.truncateInput(581));
        due("2: 19 too few", -1, x.appendInput(0, 0, 0, 0, 0));
        is("3: shorter again", true, x.truncateInput(580));
        due("2: just fits", 600, x.appendInput(0, 0, 0, 0, 0));
        is("3: to nothing", true, x.truncateInput(0));
        is("3: empty and 0", true, x.truncateInput(0));
        // "poin" "ts 4" ";   " then blanks: the most significant byte first.
        due("2: text", 20, x.appendInput(0x706f696e, 0x74732034, 0x3b202020, 0x0a202020, 0x20202020));
        due("4: load", 0, x.loadSystem());
        due("4: points", 4, x.count(0));
        is("4: the buffer is empty", false, x.truncateInput(1));
        x.appendInput(-1, -1, -1, -1, -1);
        due("4: bad load", -1, x.loadSystem());
        is("4: the buffer is empty behind an error", false, x.truncateInput(1));
        due("5: a byte of no token", 1, x.errorCode());
        due("6: its offset", 0, x.errorOffset());
    }

    private static void setupTexts() {
        loads("points 3;", 0, 0, -1);
        loads("points 15;", 0, 0, -1);
        loads("\n points\n07 ;\n", 0, 0, -1);
        loads("points7;triple0 1 3;", 1, 0, -1);
        loads(FANO, 7, 0, -1);
        loads(NINE, 12, 0, -1);
        loads(THIRTEEN, 26, 0, -1);
        loads(FIFTEEN, 35, 0, -1);
        loads("points 9;develop 8 5 2;", 3, 0, -1);
        loads("", -1, 1, 0);
        loads("  \n", -1, 1, 3);
        loads("point 7;", -1, 1, 0);
        loads("pointss 7;", -1, 1, 0);
        loads("triple 0 1 2;", -1, 1, 0);
        loads(" Points 7;", -1, 1, 1);
        loads("points", -1, 1, 6);
        loads("points ;", -1, 1, 7);
        loads("points seven;", -1, 1, 7);
        loads("points 007;", -1, 1, 7);
        loads("points 2;", -1, 2, 7);
        loads("points 16;", -1, 2, 7);
        loads("points 2", -1, 2, 7);
        loads("points 7 ", -1, 1, 9);
        loads("points 7 8;", -1, 1, 9);
        loads("points 7;;", -1, 1, 9);
        loads("points 7;points 7;", -1, 1, 9);
        loads("points 7;\ttriple 0 1 2;", -1, 1, 9);
        loads("points 7;triple 0 1;", -1, 1, 19);
        loads("points 7;triple 0 1 2 3;", -1, 1, 22);
        loads("points 7;triple 0 1 7;", -1, 2, 20);
        loads("points 7;triple 0 1 100;", -1, 1, 20);
        loads("points 7;triple 0 0 100;", -1, 2, 18);
        loads("points 7;triple 0 1 1", -1, 2, 20);
        loads("points 7;triple 0 1 2", -1, 1, 21);
        loads("points 7;triple 0 1 2;triple 2 1 0;", -1, 3, 34);
        loads("points 7;triple 0 1 2;triple 1 0 3 ;x", -1, 3, 35);
        loads("points 7;develop 0 1 2;", -1, 3, 22);
        loads("points 7;triple 4 5 6;develop 0 1 3;", -1, 3, 35);
        loads("points 6;develop 0 2 4;develop 0 1 3;", -1, 3, 36);
        loads("points 7;swap 0 1;", -1, 1, 9);
        loads("points 7;triplea 0 1 2;", -1, 1, 9);
        loads("points 7;triplez 0 1 2;", -1, 1, 9);
        loads("points 7;triple{ 0 1 2;", -1, 1, 15);
        loads("points 7;triple 0 1:2;", -1, 1, 19);
        loads("points 7;triple 0 1/2;", -1, 1, 19);
        loads("points 7;triple 0 -1 2;", -1, 1, 18);
        loads("points 7;triple 0 1 2; \u00e9", -1, 1, 23);
    }

    private static void loading() {
        TripleTrains x = load(FANO);
        x.switchQuad(0);
        x.saveState();
        x.printAt(0);
        Check.input(x, "points 9;triple 0 0 1;");
        due("4: an error", -1, x.loadSystem());
        due("4: an error keeps the points", 7, x.count(0));
        due("4: an error keeps what was counted", 1, x.count(4));
        due("4: an error keeps what can be undone", 1, x.count(7));
        due("4: an error keeps the output", '0', x.outputByte(0));
        due("4: an error keeps the saved state", 7, x.restoreState());
        due("5: out of range", 2, x.errorCode());
        due("6: out of range", 18, x.errorOffset());
        x.saveState();
        x.remove(0);
        x.printAt(0);
        Check.input(x, "points 5;triple 4 2 0;");
        due("4: a load", 1, x.loadSystem());
        due("5: none", 0, x.errorCode());
        due("6: none", -1, x.errorOffset());
        for (int what = 4; what < 8; what++) due("4: nothing is counted, " + what, 0, x.count(what));
        due("4: nothing can be undone", -1, x.undo());
        due("4: everything is replaced, the output too", -1, x.outputByte(0));
        fails("4: no state is saved", STATE, x::restoreState);
    }

    private static void counts() {
        TripleTrains x = load(FANO);
        due("7: points", 7, x.count(0));
        due("7: triples", 7, x.count(1));
        due("7: open pairs", 0, x.count(2));
        due("7: quadrilaterals", 7, x.count(3));
        x.switchQuad(0);
        x.switchCycle(0, 1, 0);
        due("7: switched quadrilaterals", 1, x.count(4));
        due("7: switched cycles", 1, x.count(5));
        due("7: replaced triples", 8, x.count(6));
        due("7: changes", 2, x.count(7));
        x.undo();
        due("7: undone cycles", 0, x.count(5));
        due("7: undone triples", 4, x.count(6));
        fails("7: -1", ARGUMENT, () -> x.count(-1));
        fails("7: 8", ARGUMENT, () -> x.count(8));
        is("8: complete", true, x.isComplete());
        x.remove(6);
        is("8: not complete", false, x.isComplete());
        due("7: three pairs", 3, x.count(2));
        for (int i = 0; i < 12; i++) x.turn(0);
        due("7: ten changes at most", 10, x.count(7));
    }

    private static void triples() {
        TripleTrains x = load("points 15;triple 14 13 12;triple 9 0 12;triple 0 1 14;triple 1 2 3;");
        due("9: order", 0, x.triple(0, 0));
        due("9: order, second", 1, x.triple(0, 1));
        due("9: rising", 14, x.triple(0, 2));
        due("9: lexicographic", 12, x.triple(1, 2));
        due("9: last", 12, x.triple(3, 0));
        fails("9: no triple", INDEX, () -> x.triple(4, 0));
        fails("9: negative", INDEX, () -> x.triple(-1, 3));
        fails("9: no index", ARGUMENT, () -> x.triple(0, 3));
        fails("9: negative index", ARGUMENT, () -> x.triple(0, -1));
        due("10: any order", 1, x.find(12, 0, 9));
        due("10: not there", -1, x.find(0, 1, 2));
        fails("10: no point", INDEX, () -> x.find(15, 15, 15));
        fails("10: negative", INDEX, () -> x.find(0, 0, -1));
        fails("10: the same", ARGUMENT, () -> x.find(3, 0, 3));
        due("11: third", 0, x.third(12, 9));
        due("11: none", -1, x.third(0, 2));
        fails("11: no point", INDEX, () -> x.third(15, 0));
        fails("11: the same", ARGUMENT, () -> x.third(0, 0));
        due("12: degree", 2, x.degree(0));
        due("12: none", 0, x.degree(11));
        fails("12: no point", INDEX, () -> x.degree(15));
        fails("12: negative", INDEX, () -> x.degree(-1));
        due("13: first", 2, x.uncovered(0));
        due("13: last", 16 * 11 + 14, x.uncovered(105 - 12 - 1));
        due("13: too many", -1, x.uncovered(105 - 12));
        due("13: far too many", -1, x.uncovered(Integer.MAX_VALUE));
        fails("13: negative", INDEX, () -> x.uncovered(-1));
        due("14: free", 0, x.reason(4, 5, 6));
        due("14: there", 1, x.reason(14, 1, 0));
        due("14: one pair", 2, x.reason(0, 1, 5));
        due("14: two pairs", 3, x.reason(9, 0, 14));
        due("14: three pairs", 4, x.reason(0, 12, 14));
        fails("14: no point", INDEX, () -> x.reason(0, 0, 15));
        fails("14: the same", ARGUMENT, () -> x.reason(1, 2, 2));
    }

    private static void addAndRemove() {
        TripleTrains x = load("points 7;triple 0 1 3;triple 4 5 0;");
        fails("15: covered", STATE, () -> x.add(0, 1, 2));
        fails("15: there", STATE, () -> x.add(3, 1, 0));
        fails("15: the same", ARGUMENT, () -> x.add(1, 1, 3));
        fails("15: no point", INDEX, () -> x.add(1, 1, 7));
        due("15: a throw is no change", 0, x.count(7));
        due("15: its number", 1, x.add(6, 2, 0));
        due("15: a change", 1, x.count(7));
        due("16: what is left", 2, x.remove(1));
        due("16: the right one", -1, x.find(0, 2, 6));
        fails("16: no triple", INDEX, () -> x.remove(2));
        fails("16: negative", INDEX, () -> x.remove(-1));
        due("16: changes", 2, x.count(7));
    }

    private static void developing() {
        TripleTrains x = load("points 15;");
        due("17: a short orbit", 5, x.develop(10, 0, 5));
        due("17: a change", 1, x.count(7));
        fails("17: again", STATE, () -> x.develop(0, 5, 10));
        fails("17: covers twice", STATE, () -> x.develop(0, 1, 2));
        fails("17: the same", ARGUMENT, () -> x.develop(0, 1, 1));
        fails("17: no point", INDEX, () -> x.develop(1, 1, 15));
        due("17: a throw changes nothing", 5, x.count(1));
        due("17: a throw is no change", 1, x.count(7));
        due("17: a full orbit", 15, x.develop(14, 0, 3));
        due("17: all", 20, x.count(1));
        TripleTrains y = load("points 7;triple 4 5 6;");
        fails("17: one is covered", STATE, () -> y.develop(0, 1, 4));
    }

    private static void filling() {
        TripleTrains x = load("points 7;");
        due("19: all systems of seven points", 30, x.completions());
        due("20: first of all", 1, x.tightest());
        due("18: filled", 7, x.fill());
        due("18: first triple", 0, x.find(0, 1, 2));
        due("18: a change", 1, x.count(7));
        due("18: nothing to add", 0, x.fill());
        due("18: a change all the same", 2, x.count(7));
        due("19: complete", 1, x.completions());
        due("20: complete", -1, x.tightest());
        TripleTrains y = load("points 9;triple 0 1 2;triple 3 4 5;");
        due("19: thirty pairs", 12, y.completions());
        y.remove(0);
        due("19: more than thirty", -2, y.completions());
        due("19: an odd degree", 0, load("points 8;").completions());
        TripleTrains z = load("points 5;triple 0 1 2;");
        due("20: in no triple", 16 * 0 + 3, z.tightest());
        due("20: fewest", 4, load("points 7;triple 4 5 6;").tightest());
        due("20: a tie", 2, load("points 7;triple 0 1 3;").tightest());
    }

    private static void quadrilaterals() {
        TripleTrains x = load(PASCH);
        for (int i = 0; i < 4; i++) due("21: triple " + i, i, x.quad(0, i));
        for (int i = 0; i < 6; i++) due("21: point " + i, i, x.quad(0, 4 + i));
        fails("21: no quadrilateral", INDEX, () -> x.quad(1, 10));
        fails("21: negative", INDEX, () -> x.quad(-1, 0));
        fails("21: no number", ARGUMENT, () -> x.quad(0, 10));
        fails("21: negative number", ARGUMENT, () -> x.quad(0, -1));
        int[] opposites = {5, 4, 3, 2, 1, 0};
        for (int p = 0; p < 6; p++) due("22: opposite " + p, opposites[p], x.opposite(0, p));
        fails("22: no point", INDEX, () -> x.opposite(0, 6));
        fails("22: no quadrilateral", INDEX, () -> x.opposite(1, 0));
        due("25: switched", 1, x.switchQuad(0));
        due("25: the opposites", 0, x.find(0, 1, 3));
        due("25: the opposites, too", 3, x.find(3, 4, 5));
        due("25: counted", 4, x.count(6));
        due("25: a change", 1, x.count(7));
        fails("25: no quadrilateral", INDEX, () -> x.switchQuad(1));
        TripleTrains y = load(FANO);
        due("22: none of the six", -1, y.opposite(0, 5));
        due("23: at", 6, y.quadsAt(3));
        fails("23: no point", INDEX, () -> y.quadsAt(7));
        due("24: of", 4, y.quadsOf(6));
        fails("24: no triple", INDEX, () -> y.quadsOf(7));
        due("21: the last one", 3, y.quad(6, 0));
        due("26: forecast", 7, y.wouldHave(6));
        fails("26: no quadrilateral", INDEX, () -> y.wouldHave(7));
        due("26: no change", 0, y.count(7));
    }

    private static void bestSwitches() {
        TripleTrains x = load(FIFTEEN);
        due("7: all quadrilaterals there can be", 105, x.count(3));
        due("26: forecast", 73, x.wouldHave(0));
        due("27: a tie", 0, x.bestSwitch(false));
        due("27: a tie of the most", 0, x.bestSwitch(true));
        x.switchQuad(0);
        int best = x.bestSwitch(false);
        int most = x.bestSwitch(true);
        for (int q = 0; q < x.count(3); q++) {
            int left = x.wouldHave(q);
            is("27: fewest of " + q, true, q < best ? left > x.wouldHave(best) : left >= x.wouldHave(best));
            is("27: most of " + q, true, q < most ? left < x.wouldHave(most) : left <= x.wouldHave(most));
        }
        due("27: none", -1, load(NINE).bestSwitch(true));
        due("27: none to leave fewest", -1, load(NINE).bestSwitch(false));
        TripleTrains y = load(FIFTEEN);
        due("28: one", 1, y.descend(1));
        due("28: fewer", 73, y.count(3));
        int more = y.descend(20);
        is("28: goes on", true, more > 1 && more < 20);
        due("28: counted", 1 + more, y.count(4));
        due("28: triples", 4 + 4 * more, y.count(6));
        due("28: two changes", 2, y.count(7));
        due("28: no more", 0, y.descend(20));
        due("28: a change all the same", 3, y.count(7));
        fails("28: 0", ARGUMENT, () -> y.descend(0));
        fails("28: 21", ARGUMENT, () -> y.descend(21));
        y.undo();
        y.undo();
        due("28: undone at once", 73, y.count(3));
        due("28: its count, too", 1, y.count(4));
    }

    private static void cycles() {
        TripleTrains x = load(FANO);
        due("29: cycles", 1, x.cycles(0, 1));
        fails("29: no point", INDEX, () -> x.cycles(7, 7));
        fails("29: the same", ARGUMENT, () -> x.cycles(6, 6));
        due("30: length", 4, x.cycleLength(1, 0, 0));
        fails("30: no cycle", ELEMENT, () -> x.cycleLength(0, 1, 1));
        fails("30: negative", ELEMENT, () -> x.cycleLength(0, 1, -1));
        fails("30: the same", ARGUMENT, () -> x.cycleLength(1, 1, 9));
        fails("30: no point", INDEX, () -> x.cycleLength(1, 7, 9));
        int[] row = {2, 6, 5, 4};
        for (int i = 0; i < 4; i++) due("31: row " + i, row[i], x.cyclePoint(0, 1, 0, i));
        for (int i = 0; i < 4; i++) due("31: with b first " + i, row[(4 - i) % 4], x.cyclePoint(1, 0, 0, i));
        fails("31: no index", ELEMENT, () -> x.cyclePoint(0, 1, 0, 4));
        fails("31: negative", ELEMENT, () -> x.cyclePoint(0, 1, 0, -1));
        fails("31: no cycle", ELEMENT, () -> x.cyclePoint(0, 1, 1, 0));
        fails("31: the same", ARGUMENT, () -> x.cyclePoint(1, 1, 1, 0));
        fails("31: no point", INDEX, () -> x.cyclePoint(-1, 1, 1, 0));
        due("33: forecast", 7, x.wouldHaveBy(0, 1, 0));
        fails("33: no cycle", ELEMENT, () -> x.wouldHaveBy(0, 1, 1));
        fails("33: the same", ARGUMENT, () -> x.wouldHaveBy(0, 0, 1));
        fails("33: no point", INDEX, () -> x.wouldHaveBy(0, 8, 1));
        due("32: length", 4, x.switchCycle(0, 1, 0));
        due("32: a by b", 3, x.find(1, 2, 6));
        due("32: the last and the first", 1, x.find(0, 2, 4));
        due("32: a change", 1, x.count(7));
        fails("32: no cycle", ELEMENT, () -> x.switchCycle(0, 1, 1));
        fails("32: the same", ARGUMENT, () -> x.switchCycle(0, 0, 1));
        fails("32: no point", INDEX, () -> x.switchCycle(0, 7, 0));
        TripleTrains y = load(PASCH);
        due("29: a way that lacks a third point is none", 0, y.cycles(0, 1));
        due("29: opposites", 1, y.cycles(0, 5));
        due("34: of four", 3, y.cyclesOf(4));
        due("34: of no length", 0, y.cyclesOf(-4) + y.cyclesOf(0) + y.cyclesOf(5) + y.cyclesOf(Integer.MAX_VALUE));
        due("37: fewer than seven points", 0, y.perfectPairs());
        TripleTrains z = load(FIFTEEN);
        due("29: three cycles", 3, z.cycles(0, 14));
        due("34: of all pairs", 315, z.cyclesOf(4));
        due("32: one of three", 4, z.switchCycle(0, 14, 2));
        due("33: and back", 105, z.wouldHaveBy(14, 0, 2));
    }

    private static void trades() {
        TripleTrains x = load(FANO);
        due("35: two cycles make one trade", 7, x.trades(4));
        due("35: any int", 0, x.trades(-1) + x.trades(0) + x.trades(3) + x.trades(Integer.MIN_VALUE));
        Check.due("36: smallest first", 30L, x.trade(4, 0));
        Check.due("36: greatest last", 120L, x.trade(4, 6));
        fails("36: no more", ELEMENT, () -> x.trade(4, 7));
        fails("36: negative", ELEMENT, () -> x.trade(4, -1));
        fails("36: no volume", ELEMENT, () -> x.trade(5, 0));
        TripleTrains y = load(FIFTEEN);
        due("35: all", 105, y.trades(4));
        is("36: beyond 32 triples", true, y.trade(4, 104) > 1L << 33);
        TripleTrains z = load(NINE);
        due("35: of six", 36, z.trades(6));
        is("36: six triples", true, Long.bitCount(z.trade(6, 35)) == 6);
        due("37: all pairs", 36, z.perfectPairs());
        due("37: seven points", 21, x.perfectPairs());
        due("37: not covered", 1, load("points 8;triple 0 2 3;triple 1 3 4;triple 0 4 5;triple 1 5 6;"
            + "triple 0 6 7;triple 1 2 7;").perfectPairs());
        is("38: agrees", true, x.agrees() && y.agrees() && z.agrees() && new TripleTrains().agrees());
    }

    private static void trains() {
        TripleTrains x = load(FANO);
        due("39: digits", 0x643, x.train(2, 0, 1));
        due("39: a triple", 0x310, x.train(0, 1, 3));
        due("40: to a triple", 5, x.trainsTo(0, 1, 3));
        due("40: to another", 0, x.trainsTo(0, 1, 2));
        due("41: tail", 1, x.tail(0, 1, 2));
        due("41: none", 0, x.tail(3, 1, 0));
        due("42: round", 1, x.roundOf(0, 1, 2));
        due("43: five", 7, x.trainProfile(5));
        due("43: none", 28, x.trainProfile(0));
        due("43: any int", 0, x.trainProfile(-1) + x.trainProfile(Integer.MAX_VALUE));
        due("44: rounds", 7, x.rounds());
        TripleTrains y = load(THIRTEEN);
        longTrains(y);
        y.remove(0);
        fails("39: no point", INDEX, () -> y.train(1, 1, 13));
        fails("39: the same", ARGUMENT, () -> y.train(1, 1, 12));
        fails("39: not complete", STATE, () -> y.train(0, 1, 2));
        fails("40: no point", INDEX, () -> y.trainsTo(1, -1, 1));
        fails("40: the same", ARGUMENT, () -> y.trainsTo(1, 0, 1));
        fails("40: not complete", STATE, () -> y.trainsTo(0, 1, 2));
        fails("41: no point", INDEX, () -> y.tail(13, 1, 1));
        fails("41: the same", ARGUMENT, () -> y.tail(12, 1, 1));
        fails("41: not complete", STATE, () -> y.tail(0, 1, 2));
        fails("42: no point", INDEX, () -> y.roundOf(13, 1, 1));
        fails("42: the same", ARGUMENT, () -> y.roundOf(12, 1, 1));
        fails("42: not complete", STATE, () -> y.roundOf(0, 1, 2));
        fails("43: not complete", STATE, () -> y.trainProfile(1));
        fails("44: not complete", STATE, y::rounds);
    }

    /** Asks the train itself where each set goes, and adds the answers up. */
    private static void longTrains(TripleTrains first) {
        String text = THIRTEEN;
        TripleTrains x = first;
        int sets = 0;
        int calls = 0;
        for (int a = 0; a < 13; a++)
            for (int b = a + 1; b < 13; b++)
                for (int c = b + 1; c < 13; c++) {
                    if (calls > 400) {
                        x = load(text);
                        calls = 0;
                    }
                    int[] p = {a, b, c};
                    int tail = x.tail(a, b, c);
                    int round = x.roundOf(a, b, c);
                    for (int i = 0; i < tail + round; i++) {
                        int to = x.train(p[0], p[1], p[2]);
                        p = new int[] {to & 15, to >> 4 & 15, to >> 8};
                        if (i == tail - 1 || tail == 0 && i == 0)
                            due("41: in the round now", 0, x.tail(p[0], p[1], p[2]));
                    }
                    due("42: the same round", round, x.roundOf(p[0], p[1], p[2]));
                    calls += tail + round + 4;
                    sets++;
                }
        due("43: all sets", 286, sets);
        int all = 0;
        TripleTrains y = load(text);
        for (int many = 0; many <= 286; many++) all += y.trainProfile(many);
        due("43: all sets", 286, all);
    }

    private static void turns() {
        TripleTrains x = load(NINE);
        is("45: by 9", true, x.isTurned(9));
        is("45: by -6", true, x.isTurned(-6));
        is("45: by 1", false, x.isTurned(1));
        // 2 to the 31 is 2 modulo 9, so the least int turns by 7.
        is("45: the least int", false, x.isTurned(Integer.MIN_VALUE));
        is("45: the least int and 2", true, x.isTurned(Integer.MIN_VALUE + 2));
        due("46: least", 3, x.leastTurn());
        due("47: orbits", 6, x.orbits());
        due("48: what stays", 3, x.turn(1));
        due("48: a change", 1, x.count(7));
        due("48: back", 3, x.turn(-1));
        due("48: as before", 1, x.find(0, 3, 6));
        due("48: all stay", 12, x.turn(Integer.MIN_VALUE + 2));
        TripleTrains y = load("points 8;triple 0 1 2;");
        due("46: only the whole turn", 8, y.leastTurn());
        due("47: alone", 1, y.orbits());
        TripleTrains z = new TripleTrains();
        due("46: without triples", 1, z.leastTurn());
        due("47: without triples", 0, z.orbits());
        is("45: without triples", true, z.isTurned(1));
        due("48: without triples", 0, z.turn(5));
    }

    private static void shares() {
        TripleTrains x = load(FANO);
        Check.due("49: mean", 4.0, x.meanQuads());
        Check.due("49: without triples", 0.0, new TripleTrains().meanQuads());
        x.remove(0);
        Check.due("49: a fraction", 4 * 3.0 / 6.0, x.meanQuads());
        Check.due("50: a share", 18.0f / 21.0f, x.coverage());
        Check.due("50: nothing", 0.0f, new TripleTrains().coverage());
        Check.due("50: all", 1.0f, load(NINE).coverage());
    }

    private static void pointSets() {
        TripleTrains x = load(FANO);
        due("51: a triple", 11, x.closure(3));
        due("51: all", 127, x.closure(7));
        due("51: one point", 64, x.closure(64));
        due("51: no point", 0, x.closure(0));
        fails("51: bit 7", ARGUMENT, () -> x.closure(128));
        fails("51: negative", ARGUMENT, () -> x.closure(-1));
        due("52: none", 0, x.subsystems());
        due("52: planes", 15, load(FIFTEEN).subsystems());
        due("52: without triples", 6 + 15, load("points 6;").subsystems());
        due("53: smallest of the largest", 29, x.independent());
        due("53: without triples", 7, new TripleTrains().independent());
        due("53: eight of fifteen", 8, Integer.bitCount(load(FIFTEEN).independent()));
        due("54: none", 0, x.apart(0));
        fails("54: no triple", INDEX, () -> x.apart(7));
        fails("54: negative", INDEX, () -> x.apart(-1));
        due("54: parallel", 2, load(NINE).apart(11));
        due("55: one", 1, x.mostApart());
        due("55: three", 3, load(NINE).mostApart());
        due("55: five", 5, load(FIFTEEN).mostApart());
        due("55: without triples", 0, new TripleTrains().mostApart());
    }

    private static void manyTriples() {
        TripleTrains x = load(NINE);
        due("56: fresh ones", 6, x.swap(0, 1));
        due("56: a change", 1, x.count(7));
        due("56: and back", 6, x.swap(1, 0));
        due("56: as before", 1, x.find(0, 3, 6));
        fails("56: no point", INDEX, () -> x.swap(9, 9));
        fails("56: the same", ARGUMENT, () -> x.swap(8, 8));
        due("57: removed", 4, x.clear(0));
        due("57: rest", 8, x.count(1));
        due("57: nothing", 0, x.clear(0));
        due("57: a change all the same", 4, x.count(7));
        fails("57: no point", INDEX, () -> x.clear(9));
        TripleTrains y = load(NINE);
        due("58: three", 3, y.inTheWay(0, 1, 3));
        due("58: itself", 1, y.inTheWay(6, 3, 0));
        fails("58: no point", INDEX, () -> y.inTheWay(0, 0, 9));
        fails("58: the same", ARGUMENT, () -> y.inTheWay(0, 0, 8));
        fails("59: there", STATE, () -> y.force(0, 6, 3));
        fails("59: the same", ARGUMENT, () -> y.force(0, 0, 3));
        fails("59: no point", INDEX, () -> y.force(0, 0, -3));
        due("59: a throw is no change", 0, y.count(7));
        due("59: removed", 3, y.force(3, 1, 0));
        due("59: rest", 10, y.count(1));
        due("59: there now", 0, y.find(0, 1, 3));
        due("59: one change", 1, y.count(7));
        TripleTrains z = load("points 7;");
        due("59: nothing in the way", 0, z.force(0, 1, 2));
        due("58: none", 0, z.inTheWay(0, 3, 4));
    }

    private static void outputs() {
        TripleTrains x = load("points 15;triple 14 10 0;triple 9 0 11;triple 12 13 14;triple 1 2 3;");
        due("60: bytes", 7, x.printAt(0));
        String want = "09b 0ae";
        for (int i = 0; i < 7; i++) due("61: byte " + i, want.charAt(i), x.outputByte(i));
        due("61: no more", -1, x.outputByte(7));
        due("61: negative", -1, x.outputByte(-1));
        due("61: far", -1, x.outputByte(Integer.MAX_VALUE));
        fails("60: no point", INDEX, () -> x.printAt(15));
        due("60: a throw keeps it", '9', x.outputByte(1));
        x.saveState();
        x.remove(0);
        due("60: in place", 3, x.printAt(13));
        due("61: c", 'c', x.outputByte(0));
        due("61: no more than that", -1, x.outputByte(3));
        x.undo();
        x.restoreState();
        due("60: neither undone nor restored", 'd', x.outputByte(1));
        due("60: none", 0, x.printAt(4));
        due("61: none", -1, x.outputByte(0));
        TripleTrains y = load(FIFTEEN);
        due("60: seven triples", 27, y.printAt(14));
    }

    private static void undoing() {
        TripleTrains x = load("points 15;");
        due("62: none", -1, x.undo());
        for (int i = 0; i < 12; i++) x.add(0 + i % 4, 4 + (i / 4 + i % 4) % 4 , 8 + i / 4);
        due("62: twelve", 12, x.count(1));
        for (int left = 9; left >= 0; left--) due("62: left", left, x.undo());
        due("62: no more", -1, x.undo());
        due("62: the two oldest stay", 2, x.count(1));
        x.fill();
        x.descend(3);
        x.saveState();
        x.clear(0);
        due("62: questions and saving are no changes", 3, x.count(7));
        due("62: one", 2, x.undo());
        due("62: two", 1, x.undo());
        due("62: counts go back", 0, x.count(4));
    }

    private static void saving() {
        TripleTrains x = load(FIFTEEN);
        fails("64: none", STATE, x::restoreState);
        x.switchQuad(3);
        due("63: triples", 35, x.saveState());
        x.switchCycle(0, 1, 0);
        x.clear(5);
        due("64: triples", 35, x.restoreState());
        due("64: quadrilaterals", 1, x.count(4));
        due("64: cycles", 0, x.count(5));
        due("64: replaced", 4, x.count(6));
        due("64: nothing can be undone", -1, x.undo());
        x.clear(5);
        due("64: stays saved", 35, x.restoreState());
        x.clear(0);
        due("63: in place", 28, x.saveState());
        x.undo();
        due("63: is not undone", 28, x.restoreState());
    }

    private static void constants() {
        due("NO_ERROR", 0, TripleTrains.NO_ERROR);
        due("SYNTAX", 1, TripleTrains.SYNTAX);
        due("OUT_OF_RANGE", 2, TripleTrains.OUT_OF_RANGE);
        due("COVERED", 3, TripleTrains.COVERED);
    }

    public static void main(String[] args) {
        newObject();
        inputBuffer();
        setupTexts();
        loading();
        counts();
        triples();
        addAndRemove();
        developing();
        filling();
        quadrilaterals();
        bestSwitches();
        cycles();
        trades();
        trains();
        turns();
        shares();
        pointSets();
        manyTriples();
        outputs();
        undoing();
        saving();
        constants();
        Check.end();
    }
}
