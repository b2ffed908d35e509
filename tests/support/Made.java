import java.util.List;
import java.util.function.Supplier;

/** Systems for the tests, and objects in which nothing is empty, so that whatever a call spoils can be seen. */
public final class Made {
    /** Seven triples on seven points, 0 1 3 | 0 2 6 | 0 4 5 | 1 2 4 | 1 5 6 | 2 3 5 | 3 4 6, and seven quadrilaterals. */
    public static final String FANO = "points 7;develop 0 1 3;";
    /** Twelve triples, no quadrilateral: all cycles have six points. */
    public static final String NINE = "points 9;develop 0 3 6;triple 0 1 2;triple 3 4 5;triple 6 7 8;"
        + "triple 0 4 8;triple 1 5 6;triple 2 3 7;triple 0 5 7;triple 1 3 8;triple 2 4 6;";
    public static final String THIRTEEN = "points 13;develop 0 1 4;develop 0 2 7;";
    /** The points and lines of the space over two elements: all 105 quadrilaterals that there can be. */
    public static final String FIFTEEN = "points 15;develop 0 5 10;develop 0 1 4;develop 0 2 8;";
    /** One quadrilateral; the opposites are 0 5, 1 4 and 2 3. */
    public static final String PASCH = "points 6;triple 0 1 2;triple 0 3 4;triple 1 3 5;triple 2 4 5;";
    /** One cycle of 0 and 1 through the twelve points behind them, in their order. */
    public static final String TWELVE = "points 14;triple 0 2 3;triple 1 3 4;triple 0 4 5;triple 1 5 6;triple 0 6 7;"
        + "triple 1 7 8;triple 0 8 9;triple 1 9 10;triple 0 10 11;triple 1 11 12;triple 0 12 13;triple 1 13 2;";

    private Made() { }

    /** The least points, no triple, nothing that was. */
    public static TripleTrains three() { return new TripleTrains(); }

    /** FANO, complete: with switches counted, changes to undo, another saved state, output, input and an error. */
    public static TripleTrains full() {
        TripleTrains x = Check.loaded(FANO);
        int six = pointsOf(x, 0);
        x.switchQuad(0);
        x.saveState();
        int back = 0;
        while (back < x.count(3) && pointsOf(x, back) != six) back++;
        x.switchQuad(back);
        x.switchCycle(0, 1, 0);
        x.switchCycle(0, 1, 0);
        return dressed(x);
    }

    /** The same without the triple 3 4 6, the last one. */
    public static TripleTrains open() {
        TripleTrains x = full();
        x.remove(6);
        return x;
    }

    /** The most points and triples. */
    public static TripleTrains fifteen() {
        TripleTrains x = Check.loaded(FIFTEEN);
        x.turn(0);
        x.saveState();
        return dressed(x);
    }

    /** The most points, no triple. */
    public static TripleTrains bare() {
        TripleTrains x = Check.loaded("points 15;");
        x.turn(1);
        x.saveState();
        return dressed(x);
    }

    public static List<Supplier<TripleTrains>> all() {
        return List.of(Made::three, Made::full, Made::open, Made::fifteen, Made::bare);
    }

    private static TripleTrains dressed(TripleTrains x) {
        Check.input(x, "points 8;x");
        x.loadSystem();
        x.printAt(0);
        Check.input(x, "points 9;triple 0 1 2;");
        return x;
    }

    /** The six points of a quadrilateral as a bit mask. */
    public static int pointsOf(TripleTrains x, int quad) {
        int set = 0;
        for (int i = 4; i < 10; i++) set |= 1 << x.quad(quad, i);
        return set;
    }
}
