import java.util.NoSuchElementException;
import java.util.function.Supplier;

/** Calls that are refused: each throws what is due, and all that can be told of the object is as it was. */
public final class Refused {
    public static final Class<?> INDEX = IndexOutOfBoundsException.class;
    public static final Class<?> ARGUMENT = IllegalArgumentException.class;
    public static final Class<?> STATE = IllegalStateException.class;
    public static final Class<?> ELEMENT = NoSuchElementException.class;

    private Refused() { }

    public interface Ask { Object of(TripleTrains x); }

    public interface Ask1 { Object of(TripleTrains x, int a); }

    public interface Ask2 { Object of(TripleTrains x, int a, int b); }

    public interface Ask3 { Object of(TripleTrains x, int a, int b, int c); }

    public static void with(Class<?> due, Supplier<TripleTrains> made, String call, Ask ask) {
        TripleTrains x = made.get();
        Check.dueThrow(call, due, () -> ask.of(x));
        Check.due("behind " + call, Portrait.of(made.get()), Portrait.of(x));
    }

    /** A call that does not throw the exception, at the very edge of those that do. */
    public static void taken(Class<?> not, Supplier<TripleTrains> made, String call, Ask ask) {
        TripleTrains x = made.get();
        Object got = Check.outcome(() -> ask.of(x));
        Check.due(call + " is not refused so", false, not.getSimpleName().equals(got));
    }

    /** All but least to greatest are refused; none of both if the greatest is smaller than the least. */
    public static void range(Class<?> due, Supplier<TripleTrains> made, int least, int greatest, Ask1 ask) {
        for (int bad : new int[] {least - 1, greatest + 1, Integer.MIN_VALUE, Integer.MAX_VALUE})
            with(due, made, "with " + bad, x -> ask.of(x, bad));
        for (int good = least; good <= greatest; good++) {
            int value = good;
            taken(due, made, "with " + value, x -> ask.of(x, value));
        }
    }

    public static void noPoint(Ask1 ask) {
        for (Supplier<TripleTrains> made : Made.all()) range(INDEX, made, 0, made.get().count(0) - 1, ask);
    }

    /** Also if both are the same, which is listed behind. */
    public static void noPoint(Ask2 ask) {
        for (Supplier<TripleTrains> made : Made.all()) {
            int last = made.get().count(0) - 1;
            range(INDEX, made, 0, last, (x, p) -> ask.of(x, p, p == 0 ? 1 : 0));
            range(INDEX, made, 0, last, (x, p) -> ask.of(x, p == last ? 0 : last, p));
            range(INDEX, made, 0, last, (x, p) -> ask.of(x, p, p));
        }
    }

    public static void noPoint(Ask3 ask) {
        for (Supplier<TripleTrains> made : Made.all()) {
            int last = made.get().count(0) - 1;
            range(INDEX, made, 0, last, (x, p) -> ask.of(x, p, 1, 2));
            range(INDEX, made, 0, last, (x, p) -> ask.of(x, 0, p, last));
            range(INDEX, made, 0, last, (x, p) -> ask.of(x, 0, 1, p));
            range(INDEX, made, 0, last, (x, p) -> ask.of(x, p, 0, 0));
            range(INDEX, made, 0, last, (x, p) -> ask.of(x, 0, p, 0));
            range(INDEX, made, 0, last, (x, p) -> ask.of(x, 0, 0, p));
            range(INDEX, made, 0, last, (x, p) -> ask.of(x, p, p, p));
        }
    }

    public static void samePoints(Ask2 ask) {
        for (Supplier<TripleTrains> made : Made.all()) {
            int last = made.get().count(0) - 1;
            for (int p = 0; p <= last; p++)
                for (int q = 0; q <= last; q++) {
                    int a = p;
                    int b = q;
                    if (a == b && (a < 2 || a == last)) with(ARGUMENT, made, a + " twice", x -> ask.of(x, a, b));
                    if (a != b) taken(ARGUMENT, made, a + " and " + b, x -> ask.of(x, a, b));
                }
        }
    }

    /** Also in a state that is listed behind: some of these systems are complete, some are not. */
    public static void samePoints(Ask3 ask) {
        for (Supplier<TripleTrains> made : Made.all()) {
            int last = made.get().count(0) - 1;
            for (int[] p : new int[][] {{0, last}, {last, 0}, {1, 2}, {2, 1}, {last - 1, last}}) {
                with(ARGUMENT, made, "first and second " + p[0], x -> ask.of(x, p[0], p[0], p[1]));
                with(ARGUMENT, made, "first and third " + p[0], x -> ask.of(x, p[0], p[1], p[0]));
                with(ARGUMENT, made, "second and third " + p[0], x -> ask.of(x, p[1], p[0], p[0]));
                with(ARGUMENT, made, "all three " + p[0], x -> ask.of(x, p[0], p[0], p[0]));
            }
            for (int[] p : new int[][] {{0, 1, 2}, {2, 1, 0}, {last, 0, last - 1}, {1, last, 0}})
                taken(ARGUMENT, made, p[0] + " " + p[1] + " " + p[2], x -> ask.of(x, p[0], p[1], p[2]));
        }
    }

    public static void noTriple(Ask1 ask) {
        for (Supplier<TripleTrains> made : Made.all()) range(INDEX, made, 0, made.get().count(1) - 1, ask);
    }

    public static void noQuad(Ask1 ask) {
        for (Supplier<TripleTrains> made : Made.all()) range(INDEX, made, 0, made.get().count(3) - 1, ask);
    }
}
