/** Texts with faults at all places must load, or fail, as they do in the model. */
public final class SetupFuzzTest {
    private static long seed = 99;
    private static final String[] PIECES = {
        "points", "triple", "develop", "point", "triples", "x", ";", ";", ";", " ", "\n", "\t", "0", "1", "2", "3",
        "7", "9", "14", "15", "16", "99", "100", "007", "07", "-1", "A", "\u0000", "\u00ff", ",",
    };

    private static int next(int bound) {
        seed = seed * 6364136223846793005L + 1442695040888963407L;
        return (int) ((seed >>> 33) % bound);
    }

    /** A good text for the most part, with one thing or two spoiled. */
    private static String text() {
        int v = 3 + next(13);
        StringBuilder s = new StringBuilder("points ").append(v).append(';');
        for (int i = next(6); i > 0; i--) {
            s.append(next(3) == 0 ? " \n" : "").append(next(3) == 0 ? "develop" : "triple");
            for (int k = 0; k < 3; k++) s.append(' ').append(next(12) == 0 ? next(20) : next(v));
            s.append(next(3) == 0 ? " ;" : ";");
        }
        for (int i = next(3); i > 0; i--) {
            int at = next(s.length() + 1);
            int end = Math.min(s.length(), at + next(4));
            s.replace(at, end, next(3) == 0 ? "" : PIECES[next(PIECES.length)]);
        }
        if (next(20) == 0) s.setLength(next(s.length() + 1));
        return s.toString();
    }

    private static String shown(String text) {
        return text.replace("\n", "\\n").replace("\t", "\\t");
    }

    private static void both(TripleTrains x, Model model, String text) {
        int keep = text.length();
        for (int i = 0; i < keep; i += 20) {
            int[] w = new int[5];
            for (int k = 0; k < 20; k++) w[k / 4] = w[k / 4] << 8 | (i + k < keep ? text.charAt(i + k) : ' ');
            Check.due("append", model.appendInput(w[0], w[1], w[2], w[3], w[4]),
                x.appendInput(w[0], w[1], w[2], w[3], w[4]));
        }
        Check.due("truncate", model.truncateInput(keep), x.truncateInput(keep));
        Check.due("load of " + shown(text), model.loadSystem(), x.loadSystem());
        Check.due("error of " + shown(text), model.errorCode(), x.errorCode());
        Check.due("offset of " + shown(text), model.errorOffset(), x.errorOffset());
        Check.due("points of " + shown(text), model.count(0), x.count(0));
        Check.due("triples of " + shown(text), model.count(1), x.count(1));
    }

    public static void main(String[] args) {
        int[] codes = new int[4];
        for (int i = 0; i < 4000; i++) {
            TripleTrains x = new TripleTrains();
            Model model = new Model();
            for (int k = 0; k < 5; k++) {
                String text = text();
                if (text.length() > 600) continue;
                both(x, model, text);
                codes[x.errorCode()]++;
            }
        }
        for (int code = 0; code < 4; code++) Check.due("enough of code " + code, true, codes[code] > 500);
        Check.end();
    }
}
