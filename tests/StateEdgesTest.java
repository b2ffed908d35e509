import java.util.LinkedHashMap;
import java.util.Map;
import java.util.function.Supplier;

/** The edges of changes and questions, of promises 60 to 64, and of an object's 512 calls. */
public final class StateEdgesTest extends Edges {
    /** Every question, with arguments that it takes in FANO, complete or not. */
    private static Map<String, Refused.Ask> questions() {
        Map<String, Refused.Ask> all = new LinkedHashMap<>();
        all.put("errorCode", TripleTrains::errorCode);
        all.put("errorOffset", TripleTrains::errorOffset);
        for (int what = 0; what < 8; what++) {
            int number = what;
            all.put("count " + what, x -> x.count(number));
        }
        all.put("isComplete", TripleTrains::isComplete);
        all.put("triple", x -> x.triple(5, 2));
        all.put("find", x -> x.find(0, 1, 2));
        all.put("third", x -> x.third(3, 4));
        all.put("degree", x -> x.degree(6));
        all.put("uncovered", x -> x.uncovered(2));
        all.put("reason", x -> x.reason(3, 4, 6));
        all.put("completions", TripleTrains::completions);
        all.put("tightest", TripleTrains::tightest);
        all.put("quad", x -> x.quad(2, 9));
        all.put("opposite", x -> x.opposite(0, 2));
        all.put("quadsAt", x -> x.quadsAt(1));
        all.put("quadsOf", x -> x.quadsOf(5));
        all.put("wouldHave", x -> x.wouldHave(2));
        all.put("bestSwitch of the fewest", x -> x.bestSwitch(false));
        all.put("bestSwitch of the most", x -> x.bestSwitch(true));
        all.put("cycles", x -> x.cycles(0, 1));
        all.put("cycleLength", x -> x.cycleLength(0, 1, 0));
        all.put("cyclePoint", x -> x.cyclePoint(1, 0, 0, 3));
        all.put("wouldHaveBy", x -> x.wouldHaveBy(0, 1, 0));
        all.put("cyclesOf", x -> x.cyclesOf(4));
        all.put("trades", x -> x.trades(4));
        all.put("trade", x -> x.trade(4, 2));
        all.put("perfectPairs", TripleTrains::perfectPairs);
        all.put("agrees", TripleTrains::agrees);
        all.put("isTurned", x -> x.isTurned(1));
        all.put("leastTurn", TripleTrains::leastTurn);
        all.put("orbits", TripleTrains::orbits);
        all.put("meanQuads", TripleTrains::meanQuads);
        all.put("coverage", TripleTrains::coverage);
        all.put("closure", x -> x.closure(25));
        all.put("subsystems", TripleTrains::subsystems);
        all.put("independent", TripleTrains::independent);
        all.put("apart", x -> x.apart(3));
        all.put("mostApart", TripleTrains::mostApart);
        all.put("inTheWay", x -> x.inTheWay(0, 1, 2));
        all.put("outputByte", x -> x.outputByte(0));
        return all;
    }

    private static Map<String, Refused.Ask> questionsOfComplete() {
        Map<String, Refused.Ask> all = new LinkedHashMap<>();
        all.put("train", x -> x.train(4, 5, 6));
        all.put("trainsTo", x -> x.trainsTo(3, 4, 6));
        all.put("tail", x -> x.tail(0, 1, 2));
        all.put("roundOf", x -> x.roundOf(0, 1, 2));
        all.put("trainProfile", x -> x.trainProfile(5));
        all.put("rounds", TripleTrains::rounds);
        return all;
    }

    /** Every change, each with a call that FANO without 3 4 6 takes. */
    private static Map<String, Refused.Ask> changes() {
        Map<String, Refused.Ask> all = new LinkedHashMap<>();
        all.put("add", x -> x.add(6, 4, 3));
        all.put("remove", x -> x.remove(5));
        all.put("fill", TripleTrains::fill);
        all.put("switchQuad", x -> x.switchQuad(2));
        all.put("descend", x -> x.descend(20));
        all.put("switchCycle", x -> x.switchCycle(0, 1, 0));
        all.put("turn", x -> x.turn(1));
        all.put("swap", x -> x.swap(0, 6));
        all.put("clear", x -> x.clear(6));
        all.put("force", x -> x.force(0, 1, 2));
        return all;
    }

    /** The questions about the system alone: nothing that was answers them. */
    private static Map<String, Refused.Ask> questionsOfSystem() {
        Map<String, Refused.Ask> all = questions();
        for (String other : new String[] {"errorCode", "errorOffset", "count 4", "count 5", "count 6", "count 7", "outputByte"}) all.remove(other);
        all.putAll(questionsOfComplete());
        return all;
    }

    /** Each question is asked of a new object, as one before it could mend what is wrong. */
    private static void answerAlike(String what, Supplier<TripleTrains> want, Supplier<TripleTrains> got) {
        for (Map.Entry<String, Refused.Ask> q : questionsOfSystem().entrySet()) {
            TripleTrains x = want.get();
            TripleTrains y = got.get();
            Object due = Check.outcome(() -> q.getValue().of(x));
            Check.due(what + ", " + q.getKey(), due, Check.outcome(() -> q.getValue().of(y)));
        }
    }

    private static TripleTrains behind(Supplier<TripleTrains> made, Refused.Ask change) {
        TripleTrains x = made.get();
        Check.outcome(() -> change.of(x));
        return x;
    }

    private static TripleTrains undone(Supplier<TripleTrains> made, Refused.Ask change) {
        TripleTrains x = behind(made, change);
        x.undo();
        return x;
    }

    // ---- terms

    @Says(at = 0, line = "all numbers of triples are those that they have now.")
    private static void answersOfNow() {
        for (Map.Entry<String, Refused.Ask> change : changes().entrySet())
            for (Supplier<TripleTrains> made : java.util.List.<Supplier<TripleTrains>>of(Made::open, Made::fifteen, () -> load(Made.THIRTEEN))) {
                Refused.Ask call = change.getValue();
                String then = Portrait.setup(behind(made, call));
                answerAlike("behind " + change.getKey(), () -> load(then), () -> behind(made, call));
                String back = Portrait.setup(undone(made, call));
                answerAlike("undone, " + change.getKey(), () -> load(back), () -> undone(made, call));
            }
    }

    @Says(at = 0, line = "An error changes nothing but the input buffer and the reported error.")
    private static void answersBehindError() {
        for (String bad : new String[] {"points 3;x", "points 15;develop 0 5 10;x", "points 9;triple 0 1 2;triple 0 1 3;"})
            for (Supplier<TripleTrains> made : Made.all()) {
                answerAlike("behind " + bad, made, () -> refusedLoad(made, bad));
                for (Map.Entry<String, Refused.Ask> change : changes().entrySet()) {
                    TripleTrains want = made.get();
                    Object answer = Check.outcome(() -> change.getValue().of(want));
                    TripleTrains got = refusedLoad(made, bad);
                    Check.due(change.getKey() + " behind " + bad, answer, Check.outcome(() -> change.getValue().of(got)));
                    Check.due("all behind both", Portrait.now(want), Portrait.now(got));
                    inItself(change.getKey() + " behind " + bad, got);
                }
            }
    }

    private static TripleTrains refusedLoad(Supplier<TripleTrains> made, String bad) {
        TripleTrains x = made.get();
        x.truncateInput(0);
        Check.input(x, bad);
        due("load of " + bad, -1, x.loadSystem());
        return x;
    }

    @Says(at = 0, line = "Changes are the methods whose description says so")
    private static void changesCount() {
        for (Map.Entry<String, Refused.Ask> change : changes().entrySet()) {
            TripleTrains x = Made.open();
            change.getValue().of(x);
            due(change.getKey(), 6, x.count(7));
            inItself(change.getKey(), x);
            due("undone", 5, x.undo());
            inItself(change.getKey() + ", undone", x);
            Check.due("behind it", Portrait.of(Made.open()), Portrait.of(x));
        }
        isChange(() -> load("points 7;"), x -> x.develop(0, 1, 3));
        String[] none = {"saveState", "printAt", "appendInput", "truncateInput"};
        Refused.Ask[] calls = {TripleTrains::saveState, x -> x.printAt(1), x -> x.appendInput(0, 0, 0, 0, 0), x -> x.truncateInput(1)};
        for (int i = 0; i < none.length; i++) {
            TripleTrains x = Made.open();
            calls[i].of(x);
            due(none[i] + " is none", 5, x.count(7));
        }
    }

    @Says(at = 0, line = "also if nothing is different then.")
    private static void changesOfNothing() {
        isChangeOfNothing(Made::full, TripleTrains::fill);
        isChangeOfNothing(Made::full, x -> x.descend(20));
        isChangeOfNothing(Made::full, x -> x.turn(1));
        isChangeOfNothing(Made::three, x -> x.swap(0, 1));
        isChangeOfNothing(Made::three, x -> x.clear(0));
    }

    @Says(at = 0, line = "The latest 10 changes can be undone.")
    private static void latestTen() {
        for (int changes : new int[] {1, 9, 10, 11, 20, 23}) {
            TripleTrains x = load("points 15;");
            for (int i = 0; i < changes; i++) x.turn(1);
            due("of " + changes, Math.min(10, changes), x.count(7));
            for (int left = Math.min(10, changes) - 1; left >= 0; left--) due("left of " + changes, left, x.undo());
            due("no more of " + changes, -1, x.undo());
        }
        TripleTrains y = load("points 15;");
        for (int i = 0; i < 5; i++) y.add(i, i + 5, i + 10);
        for (int i = 0; i < 5; i++) y.remove(0);
        for (int i = 1; i <= 5; i++) {
            y.undo();
            due("back by " + i, i, y.count(1));
        }
        for (int i = 4; i >= 0; i--) {
            y.undo();
            due("back to " + i, i, y.count(1));
        }
        due("all ten", -1, y.undo());
        for (int i = 0; i < 5; i++) y.add(i, i + 5, i + 10);
        for (int i = 0; i < 6; i++) y.turn(1);
        for (int i = 0; i < 10; i++) y.undo();
        due("the first of eleven stays", 1, y.count(1));
        due("0 5 10", 0, y.find(0, 5, 10));
        for (int changes = 10; changes <= 25; changes++) eachState(changes);
    }

    /** A triple goes round, so that the states behind ten changes all differ. */
    private static void eachState(int changes) {
        TripleTrains x = load("points 15;triple 0 1 3;");
        for (int i = 0; i < changes; i++) x.turn(1);
        for (int behind = changes - 1; behind >= changes - 10; behind--) {
            x.undo();
            due("behind " + behind + " of " + changes, 0, x.find(behind % 15, (behind + 1) % 15, (behind + 3) % 15));
        }
    }

    @Says(at = 0, line = "Questions change nothing.")
    private static void questionsChangeNothing() {
        for (Map.Entry<String, Refused.Ask> q : questions().entrySet()) {
            changesNothing(Made::open, q.getKey(), q.getValue());
            if (!q.getKey().equals("uncovered")) changesNothing(Made::full, q.getKey(), q.getValue());
            changesNothing(Made::fifteen, q.getKey(), q.getValue());
        }
        for (Map.Entry<String, Refused.Ask> q : questionsOfComplete().entrySet()) {
            changesNothing(Made::full, q.getKey(), q.getValue());
            changesNothing(Made::fifteen, q.getKey(), q.getValue());
        }
    }

    @Says(at = 0, line = "If several exceptions apply to a call, the one that is listed first is thrown.")
    private static void listedFirst() {
        Refused.with(INDEX, Made::open, "triple", x -> x.triple(6, 3));
        Refused.with(INDEX, Made::open, "quad", x -> x.quad(3, 10));
        Refused.with(INDEX, Made::open, "third", x -> x.third(7, 7));
        Refused.with(INDEX, Made::open, "swap", x -> x.swap(-1, -1));
        Map<String, Refused.Ask3> three = new LinkedHashMap<>();
        three.put("add", TripleTrains::add);
        three.put("develop", TripleTrains::develop);
        three.put("force", TripleTrains::force);
        three.put("train", TripleTrains::train);
        three.put("trainsTo", TripleTrains::trainsTo);
        three.put("tail", TripleTrains::tail);
        three.put("roundOf", TripleTrains::roundOf);
        three.put("find", TripleTrains::find);
        three.put("reason", TripleTrains::reason);
        three.put("inTheWay", TripleTrains::inTheWay);
        for (Map.Entry<String, Refused.Ask3> call : three.entrySet()) {
            Refused.Ask3 ask = call.getValue();
            Refused.with(INDEX, Made::open, call.getKey(), x -> ask.of(x, 7, 7, 7));
            Refused.with(INDEX, Made::open, call.getKey(), x -> ask.of(x, 0, 0, 7));
            Refused.with(INDEX, Made::open, call.getKey(), x -> ask.of(x, 0, 1, 7));
            Refused.with(INDEX, Made::open, call.getKey(), x -> ask.of(x, -1, 0, 1));
            Refused.with(ARGUMENT, Made::open, call.getKey(), x -> ask.of(x, 0, 1, 1));
        }
        Map<String, Refused.Ask3> cycles = new LinkedHashMap<>();
        cycles.put("cycleLength", TripleTrains::cycleLength);
        cycles.put("cyclePoint", (x, a, b, c) -> x.cyclePoint(a, b, c, 99));
        cycles.put("switchCycle", TripleTrains::switchCycle);
        cycles.put("wouldHaveBy", TripleTrains::wouldHaveBy);
        for (Map.Entry<String, Refused.Ask3> call : cycles.entrySet()) {
            Refused.Ask3 ask = call.getValue();
            Refused.with(INDEX, Made::open, call.getKey(), x -> ask.of(x, 7, 7, 9));
            Refused.with(INDEX, Made::open, call.getKey(), x -> ask.of(x, 0, -1, 9));
            Refused.with(ARGUMENT, Made::open, call.getKey(), x -> ask.of(x, 6, 6, 9));
            Refused.with(ELEMENT, Made::open, call.getKey(), x -> ask.of(x, 0, 6, 9));
        }
    }

    @Says(at = 0, line = "A method that throws changes nothing.")
    private static void throwsChangeNothing() {
        Supplier<TripleTrains> open = Made::open;
        Refused.with(STATE, open, "add", x -> x.add(0, 1, 4));
        Refused.with(INDEX, open, "remove", x -> x.remove(6));
        Refused.with(STATE, open, "develop", x -> x.develop(3, 4, 6));
        Refused.with(INDEX, open, "switchQuad", x -> x.switchQuad(3));
        Refused.with(ARGUMENT, open, "descend", x -> x.descend(0));
        Refused.with(ELEMENT, open, "switchCycle", x -> x.switchCycle(0, 1, 1));
        Refused.with(ARGUMENT, open, "swap", x -> x.swap(1, 1));
        Refused.with(INDEX, open, "clear", x -> x.clear(7));
        Refused.with(STATE, open, "force", x -> x.force(0, 1, 3));
        Refused.with(INDEX, open, "printAt", x -> x.printAt(7));
        Refused.with(STATE, Made::three, "restoreState", TripleTrains::restoreState);
        Refused.with(STATE, open, "rounds", TripleTrains::rounds);
    }

    @Says(at = 0, line = "NO_ERROR = 0: No error.")
    private static void noErrorIsZero() { due("NO_ERROR", 0, TripleTrains.NO_ERROR); }

    @Says(at = 0, line = "SYNTAX = 1: Error code: the text does not follow the form.")
    private static void syntaxIsOne() { due("SYNTAX", 1, TripleTrains.SYNTAX); }

    @Says(at = 0, line = "OUT_OF_RANGE = 2: Error code: a number is out of range.")
    private static void outOfRangeIsTwo() { due("OUT_OF_RANGE", 2, TripleTrains.OUT_OF_RANGE); }

    @Says(at = 0, line = "COVERED = 3: Error code: a pair would be covered twice.")
    private static void coveredIsThree() { due("COVERED", 3, TripleTrains.COVERED); }

    @Says(at = 0, line = "An object is used for at most 512 calls after it has been made")
    private static void allCalls() {
        TripleTrains x = new TripleTrains();
        for (int call = 0; call < 508; call += 4) {
            due("fill, call " + call, call == 0 ? 1 : 0, x.fill());
            due("switches", 0, x.descend(20));
            due("turned", 1, x.turn(call));
            due("undone", Math.min(2 + call / 2, 9), x.undo());
        }
        due("saved, call 508", 1, x.saveState());
        due("restored", 1, x.restoreState());
        due("added twice", 1, x.reason(0, 1, 2));
        due("the last call", 0, x.clear(0) - 1);
        TripleTrains y = new TripleTrains();
        for (int call = 1; call <= 30; call++) due("append " + call, 20 * call, y.appendInput(0, 0, 0, 0, 0));
        for (int call = 31; call <= 512; call++) due("append " + call, -1, y.appendInput(0, 0, 0, 0, 0));
    }

    // ---- promises 60 and 61

    @Says(at = 60, line = "in place of what it had")
    private static void outputReplaced() {
        TripleTrains x = Made.full();
        Check.due("at 0", "013 026 045\n", Portrait.output(x));
        due("at 6", 11, x.printAt(6));
        Check.due("instead", "026 156 346\n", Portrait.output(x));
        TripleTrains y = load("points 7;triple 0 1 2;");
        y.printAt(2);
        due("no triple", 0, y.printAt(3));
        Check.due("nothing is left", "\n", Portrait.output(y));
    }

    @Says(at = 60, line = "each as its points rising without anything between them, 10 to 14 as the letters a to e, with a space between two triples.")
    private static void signsOfPoints() {
        TripleTrains x = load("points 15;triple 9 10 0;triple 11 0 12;triple 14 13 0;triple 1 0 8;");
        x.printAt(0);
        Check.due("at 0", "018 09a 0bc 0de\n", Portrait.output(x));
        x.printAt(14);
        Check.due("at 14, no space behind", "0de\n", Portrait.output(x));
    }

    @Says(at = 60, line = "in their order")
    private static void orderOfOutput() {
        TripleTrains x = load(Made.FIFTEEN);
        x.printAt(14);
        String text = Portrait.output(x).trim();
        for (int i = 4; i < 27; i += 4) is("rises at " + i, true, text.substring(i - 4, i - 1).compareTo(text.substring(i, i + 3)) < 0);
        for (int i = 3; i < 27; i += 4) due("space at " + i, ' ', text.charAt(i));
    }

    @Says(at = 60, line = "The output does not belong to what is undone or saved.")
    private static void outputStays() {
        TripleTrains x = Made.open();
        x.printAt(3);
        String want = Portrait.output(x);
        x.undo();
        Check.due("behind undo", want, Portrait.output(x));
        x.saveState();
        x.clear(3);
        Check.due("behind a change", want, Portrait.output(x));
        x.printAt(4);
        String later = Portrait.output(x);
        x.restoreState();
        Check.due("behind restoreState", later, Portrait.output(x));
    }

    @Says(at = 60, line = "Returns the number of bytes.")
    private static void bytesWritten() {
        due("none", 0, new TripleTrains().printAt(0));
        due("one triple", 3, load("points 3;triple 0 1 2;").printAt(2));
        due("two triples", 7, Made.open().printAt(6));
        for (int p = 0; p < 15; p++) due("most, at " + p, 27, load(Made.FIFTEEN).printAt(p));
    }

    @Says(at = 60, line = "Throws IndexOutOfBoundsException if there is no such point")
    private static void printNoPoint() { Refused.noPoint(TripleTrains::printAt); }

    @Says(at = 61, line = "index of the byte, from 0")
    private static void firstAndLastByte() {
        TripleTrains x = Made.full();
        due("first", '0', x.outputByte(0));
        due("last", '5', x.outputByte(10));
        TripleTrains y = load(Made.FIFTEEN);
        y.printAt(14);
        is("the last of 27", true, y.outputByte(26) > 0);
    }

    @Says(at = 61, line = "Returns the byte")
    private static void bytes() {
        TripleTrains x = load("points 15;triple 0 9 10;triple 14 0 1;");
        x.printAt(0);
        int[] want = {'0', '1', 'e', ' ', '0', '9', 'a', -1};
        for (int i = 0; i < 8; i++) due("byte " + i, want[i], x.outputByte(i));
    }

    @Says(at = 61, line = "-1 if there is no such byte.")
    private static void noByte() {
        TripleTrains x = Made.full();
        for (int index : new int[] {-1, 11, 12, 27, 28, 600, Integer.MIN_VALUE, Integer.MAX_VALUE}) due("byte " + index, -1, x.outputByte(index));
        due("nothing was written", -1, new TripleTrains().outputByte(0));
        TripleTrains y = load(Made.FIFTEEN);
        y.printAt(14);
        due("behind the last of 27", -1, y.outputByte(27));
    }

    // ---- promises 62 to 64

    @Says(at = 62, line = "Undoes the latest change that was not undone.")
    private static void latestFirst() {
        TripleTrains x = load("points 9;");
        String[] states = new String[5];
        for (int i = 0; i < 4; i++) {
            states[i] = Portrait.triples(x);
            x.add(2 * i + 1, 2 * i + 2, 0);
        }
        for (int i = 3; i >= 2; i--) {
            x.undo();
            Check.due("back to " + i, states[i], Portrait.triples(x));
        }
        x.add(1, 3, 5);
        x.undo();
        Check.due("the newer one first", states[2], Portrait.triples(x));
        x.undo();
        Check.due("then the older one", states[1], Portrait.triples(x));
    }

    @Says(at = 62, line = "Returns the number of changes that can still be undone")
    private static void stillUndone() {
        TripleTrains x = new TripleTrains();
        for (int i = 0; i < 13; i++) x.turn(1);
        for (int left = 9; left >= 0; left--) {
            due("left", left, x.undo());
            due("counted", left, x.count(7));
        }
        x.fill();
        due("the only one", 0, x.undo());
    }

    @Says(at = 62, line = "-1 if there was none.")
    private static void nothingToUndo() {
        due("new", -1, new TripleTrains().undo());
        changesNothing(Made::three, "an undo", TripleTrains::undo);
        TripleTrains x = new TripleTrains();
        x.fill();
        x.undo();
        due("behind the last", -1, x.undo());
        due("again", -1, x.undo());
        due("counted", 0, x.count(7));
        due("triples", 0, x.count(1));
        due("loaded", -1, load(Made.FANO).undo());
        TripleTrains y = Made.full();
        y.restoreState();
        due("restored", -1, y.undo());
    }

    @Says(at = 63, line = "Saves everything but the input buffer, the reported error, the output and the changes that can be undone")
    private static void notSaved() {
        TripleTrains x = Made.open();
        x.saveState();
        x.truncateInput(0);
        Check.input(x, "points 2;");
        x.loadSystem();
        x.printAt(6);
        Check.input(x, "points 5;");
        x.clear(0);
        x.restoreState();
        due("error", 2, x.errorCode());
        due("offset", 7, x.errorOffset());
        Check.due("output", "026 156\n", Portrait.output(x));
        is("input", true, x.truncateInput(9));
        is("input is no longer", false, x.truncateInput(10));
        due("changes", 0, x.count(7));
        Check.due("triples", Portrait.triples(Made.open()), Portrait.triples(x));
        for (int what = 4; what < 7; what++) due("count " + what, Made.open().count(what), x.count(what));
    }

    @Says(at = 63, line = "in place of an earlier saved state.")
    private static void savedOver() {
        TripleTrains x = Made.full();
        x.clear(0);
        due("saved", 4, x.saveState());
        x.fill();
        due("the later one", 4, x.restoreState());
        due("nothing of the earlier one", 0, x.degree(0));
        due("saving is no change", 0, x.count(7));
    }

    @Says(at = 63, line = "Returns the number of triples.")
    private static void triplesSaved() {
        due("none", 0, new TripleTrains().saveState());
        due("all", 35, load(Made.FIFTEEN).saveState());
        due("six", 6, Made.open().saveState());
        TripleTrains x = Made.open();
        x.saveState();
        due("changes stay", 5, x.count(7));
        due("and can be undone", 4, x.undo());
        due("behind the state saved", 7, x.count(1));
        due("which stays", 6, x.restoreState());
    }

    @Says(at = 64, line = "Restores the saved state, which stays saved.")
    private static void staysSaved() {
        TripleTrains x = load(Made.FIFTEEN);
        x.switchQuad(0);
        x.saveState();
        String want = Portrait.triples(x);
        for (int i = 0; i < 3; i++) {
            x.clear(i);
            x.switchQuad(0);
            due("restored", 35, x.restoreState());
            Check.due("the triples", want, Portrait.triples(x));
            due("one switch", 1, x.count(4));
            if (i == 1) want = Portrait.triples(x);
        }
    }

    @Says(at = 64, line = "Nothing can be undone then.")
    private static void nothingUndoneThen() {
        for (Supplier<TripleTrains> made : java.util.List.<Supplier<TripleTrains>>of(Made::full, Made::open, Made::fifteen)) {
            TripleTrains x = made.get();
            is("changes", true, x.count(7) > 0);
            x.restoreState();
            due("count", 0, x.count(7));
            due("undo", -1, x.undo());
            x.fill();
            due("a later one can", 0, x.undo());
        }
    }

    @Says(at = 64, line = "Returns the number of triples.")
    private static void triplesRestored() {
        due("seven", 7, Made.open().restoreState());
        due("none", 0, Made.bare().restoreState());
        due("all", 35, Made.fifteen().restoreState());
        TripleTrains x = Made.fifteen();
        for (int p = 0; p < 15; p++) x.clear(p);
        due("from none to all", 35, x.restoreState());
        due("quadrilaterals, too", 105, x.count(3));
    }

    @Says(at = 64, line = "Throws IllegalStateException if no state is saved")
    private static void noStateSaved() {
        Refused.with(STATE, Made::three, "new", TripleTrains::restoreState);
        Refused.with(STATE, () -> load(Made.FANO), "loaded", TripleTrains::restoreState);
        Supplier<TripleTrains> changed = () -> {
            TripleTrains x = load(Made.FANO);
            x.switchQuad(0);
            x.remove(0);
            return x;
        };
        Refused.with(STATE, changed, "changed", TripleTrains::restoreState);
        TripleTrains x = Made.full();
        x.loadSystem();
        Check.dueThrow("saved before the load", STATE, x::restoreState);
        x.saveState();
        Check.input(x, "?");
        x.loadSystem();
        due("a load with an error keeps it", 1, x.restoreState());
    }

    public static void main(String[] args) { run(StateEdgesTest.class); }
}
