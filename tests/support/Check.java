/** Counts and prints the answers that are not as due. */
public final class Check {
    private static int asked = 0;
    private static int wrong = 0;
    private static String title = "";

    private Check() { }

    /** A call that may throw. */
    public interface Call { Object make(); }

    /** Names the test whose answers come now. */
    public static void begin(String test) { title = test + ": "; }

    public static int asked() { return asked; }

    public static void due(String what, Object want, Object got) {
        asked++;
        if (!want.equals(got)) {
            wrong++;
            System.out.println(title + what + " answered " + got + ", due is " + want);
        }
    }

    /** The simple name of the exception's class, or the answer. */
    public static Object outcome(Call call) {
        try {
            return call.make();
        } catch (RuntimeException e) {
            return e.getClass().getSimpleName();
        }
    }

    public static void dueThrow(String what, Class<?> want, Call call) {
        due(what, want.getSimpleName(), outcome(call));
    }

    /** Appends a text to the input buffer, and nothing else. */
    public static void input(TripleTrains x, String text) {
        int before = x.appendInput(0, 0, 0, 0, 0) - 20;
        x.truncateInput(before);
        for (int i = 0; i < text.length(); i += 20) {
            int[] w = new int[5];
            for (int k = 0; k < 20; k++) {
                int b = i + k < text.length() ? text.charAt(i + k) & 255 : 0;
                w[k / 4] = w[k / 4] << 8 | b;
            }
            x.appendInput(w[0], w[1], w[2], w[3], w[4]);
        }
        x.truncateInput(before + text.length());
    }

    public static TripleTrains loaded(String text) {
        TripleTrains x = new TripleTrains();
        input(x, text);
        if (x.loadSystem() < 0) {
            wrong++;
            System.out.println(title + "did not load: " + text + " (" + x.errorCode() + " at " + x.errorOffset() + ")");
        }
        return x;
    }

    public static void end() {
        System.out.println(asked + " answers, " + wrong + " not as due");
        if (wrong != 0) System.exit(1);
    }
}
