/**
 * All that calls can tell of an object, as one text; the object is of no use behind it.
 * For fifteen points it takes some 400 of the 512 calls that are promised.
 */
public final class Portrait {
    private Portrait() { }

    public static String of(TripleTrains x) {
        return reported(x) + output(x) + past(x) + input(x);
    }

    /** The same without the input buffer and the reported error. */
    public static String withoutText(TripleTrains x) {
        return output(x) + past(x);
    }

    /** The points, the triples and all that is counted; takes nothing from the object. */
    public static String now(TripleTrains x) {
        StringBuilder s = new StringBuilder();
        for (int what = 0; what < 8; what++) s.append(x.count(what)).append(' ');
        return s.append(triples(x)).toString();
    }

    public static String triples(TripleTrains x) {
        StringBuilder s = new StringBuilder();
        int triples = x.count(1);
        for (int t = 0; t < triples; t++) {
            s.append('|');
            for (int i = 0; i < 3; i++) s.append(' ').append(x.triple(t, i));
        }
        return s.append('\n').toString();
    }

    /** A setup text that loads the system as it is. */
    public static String setup(TripleTrains x) {
        StringBuilder s = new StringBuilder("points ").append(x.count(0)).append(';');
        int triples = x.count(1);
        for (int t = 0; t < triples; t++) {
            s.append("triple");
            for (int i = 0; i < 3; i++) s.append(' ').append(x.triple(t, i));
            s.append(';');
        }
        return s.toString();
    }

    public static String output(TripleTrains x) {
        StringBuilder s = new StringBuilder();
        for (int i = 0; i < 40 && x.outputByte(i) >= 0; i++) s.append((char) x.outputByte(i));
        return s.append('\n').toString();
    }

    private static String reported(TripleTrains x) {
        return "error " + x.errorCode() + " at " + x.errorOffset() + "\n";
    }

    /** The system as it is, as it was before each change that can be undone, and as it was saved. */
    private static String past(TripleTrains x) {
        StringBuilder s = new StringBuilder(now(x));
        for (int left = x.undo(); left >= 0; left = x.undo()) s.append(left).append(" left: ").append(now(x));
        Object saved = Check.outcome(x::restoreState);
        return s.append("saved ").append(saved).append(": ").append(now(x)).toString();
    }

    /** How long the input is, and what it loads. */
    private static String input(TripleTrains x) {
        int longer = x.appendInput(0x20202020, 0x20202020, 0x20202020, 0x20202020, 0x20202020);
        int answer = x.loadSystem();
        return "input " + longer + " loads " + answer + " " + reported(x) + now(x);
    }
}
