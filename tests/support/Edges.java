import java.lang.reflect.InvocationTargetException;
import java.lang.reflect.Method;
import java.util.Arrays;
import java.util.Comparator;
import java.util.function.Supplier;

/**
 * What the tests of the document's edges share. Each of their methods bears the words of the document
 * that it would fail without; SentencesTest looks for words that no test bears.
 */
public abstract class Edges {
    protected static final Class<?> INDEX = Refused.INDEX;
    protected static final Class<?> ARGUMENT = Refused.ARGUMENT;
    protected static final Class<?> STATE = Refused.STATE;
    protected static final Class<?> ELEMENT = Refused.ELEMENT;
    /** Any int: the ends, and those next to nothing. */
    protected static final int[] FAR = {Integer.MIN_VALUE, Integer.MIN_VALUE + 1, -1, Integer.MAX_VALUE - 1, Integer.MAX_VALUE};

    protected static void due(String what, long want, long got) { Check.due(what, want, got); }

    protected static void is(String what, boolean want, boolean got) { Check.due(what, want, got); }

    protected static TripleTrains load(String text) { return Check.loaded(text); }

    /** What the load of a text answers, its error and the offset. */
    protected static void loads(String text, int answer, int code, int offset) {
        TripleTrains x = new TripleTrains();
        Check.input(x, text);
        String got = x.loadSystem() + " " + x.errorCode() + " " + x.errorOffset();
        Check.due("load of '" + text.replace("\n", "\\n") + "'", answer + " " + code + " " + offset, got);
    }

    /** The call is one change: it counts as one, and undone at once. */
    protected static void isChange(Supplier<TripleTrains> made, Refused.Ask call) {
        TripleTrains x = made.get();
        int before = x.count(7);
        call.of(x);
        due("changes", before + 1, x.count(7));
        due("undone", before, x.undo());
        Check.due("behind the undo", Portrait.of(made.get()), Portrait.of(x));
    }

    /** The same, though the system is the same behind the call. */
    protected static void isChangeOfNothing(Supplier<TripleTrains> made, Refused.Ask call) {
        TripleTrains x = made.get();
        call.of(x);
        Check.due("the triples", Portrait.triples(made.get()), Portrait.triples(x));
        isChange(made, call);
    }

    /** The third points, the numbers and the open pairs are those of the triples, whatever stood before. */
    protected static void inItself(String what, TripleTrains x) {
        int points = x.count(0);
        int[][] thirds = new int[points][points];
        for (int[] row : thirds) Arrays.fill(row, -1);
        int triples = x.count(1);
        for (int t = 0; t < triples; t++) {
            int[] p = {x.triple(t, 0), x.triple(t, 1), x.triple(t, 2)};
            thirds[p[0]][p[1]] = p[2];
            thirds[p[0]][p[2]] = p[1];
            thirds[p[1]][p[2]] = p[0];
        }
        int open = 0;
        for (int a = 0; a < points; a++)
            for (int b = a + 1; b < points; b++) {
                if (thirds[a][b] < 0) open++;
                due(what + ", third of " + a + " " + b, thirds[a][b], x.third(a, b));
            }
        due(what + ", pairs that are not covered", open, x.count(2));
    }

    protected static void changesNothing(Supplier<TripleTrains> made, String call, Refused.Ask ask) {
        TripleTrains x = made.get();
        ask.of(x);
        Check.due("behind " + call, Portrait.of(made.get()), Portrait.of(x));
    }

    protected static void run(Class<?> tests) {
        Method[] all = tests.getDeclaredMethods();
        Arrays.sort(all, Comparator.comparing(Method::getName));
        for (Method test : all) {
            Says says = test.getAnnotation(Says.class);
            if (says != null) runOne(test, says);
        }
        Check.end();
    }

    private static void runOne(Method test, Says says) {
        Check.begin(test.getName() + " (" + (says.at() == 0 ? "terms" : "promise " + says.at()) + ")");
        int before = Check.asked();
        try {
            test.setAccessible(true);
            test.invoke(null);
        } catch (InvocationTargetException e) {
            Check.due("the test", "no exception", String.valueOf(e.getCause()));
        } catch (IllegalAccessException e) {
            Check.due("the test", "a call of it", String.valueOf(e));
        }
        Check.due("what is asked", true, Check.asked() > before);
    }
}
