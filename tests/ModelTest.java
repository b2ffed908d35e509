import java.lang.reflect.InvocationTargetException;
import java.lang.reflect.Method;
import java.util.ArrayList;
import java.util.Arrays;
import java.util.List;

/** Long runs of calls, asked of the class and of the model, must have the same answers. */
public final class ModelTest {
    private static final String[] TEXTS = {
        "points 3;", "points 4;", "points 6; triple 0 1 2; triple 0 3 4; triple 1 3 5; triple 2 4 5;",
        "points 7; develop 0 1 3;", "points 7;", "points 8; develop 0 1 3;",
        "points 9; develop 0 3 6; triple 0 1 2; triple 3 4 5; triple 6 7 8; triple 0 4 8; triple 1 5 6;"
            + "triple 2 3 7; triple 0 5 7; triple 1 3 8; triple 2 4 6;",
        "points 13; develop 0 1 4; develop 0 2 7;",
        "points 15; develop 0 5 10; develop 0 1 4; develop 0 2 8;",
        "points 15; develop 0 5 10; develop 0 1 4;", "points 15;", "points 14; develop 0 1 4;",
        "points 12; develop 0 4 8; develop 0 1 3;", "points 13; develop 0 1 4; develop 0 5 7;",
        "points 10; develop 0 1 3;", "points 11; develop 0 1 3;", "points 5; triple 0 1 2; triple 0 3 4;",
    };

    private final long[] seed;
    private final Method[] face;

    private ModelTest(long first) {
        seed = new long[] {first};
        List<Method> all = new ArrayList<>();
        for (Method m : TripleTrains.class.getDeclaredMethods())
            if (java.lang.reflect.Modifier.isPublic(m.getModifiers())) all.add(m);
        all.sort((a, b) -> a.getName().compareTo(b.getName()));
        face = all.toArray(new Method[0]);
    }

    private int next(int bound) {
        seed[0] = seed[0] * 6364136223846793005L + 1442695040888963407L;
        return (int) ((seed[0] >>> 33) % bound);
    }

    private static final List<String> POINTS = Arrays.asList("third", "find", "degree", "reason", "add", "develop",
        "quadsAt", "cycles", "cycleLength", "cyclePoint", "switchCycle", "wouldHaveBy", "train",
        "trainsTo", "tail", "roundOf", "swap", "clear", "inTheWay", "force", "printAt");
    /** These cost the model much, or take the system apart: fewer of them. */
    private static final List<String> RARE = Arrays.asList("bestSwitch", "descend", "subsystems", "independent",
        "clear", "remove", "loadSystem", "truncateInput", "appendInput", "rounds", "trainProfile", "trade", "trades");

    private Object argument(Method m, int index, Class<?> type, Model x) {
        if (type == boolean.class) return next(2) == 1;
        int v = x.count(0);
        int pick = next(40);
        if (pick == 0) return Integer.MIN_VALUE;
        if (pick == 1) return Integer.MAX_VALUE;
        if (pick == 2) return -1;
        switch (m.getName()) {
            case "count": return next(9);
            case "triple": return index == 0 ? next(x.count(1) + 1) : next(3);
            case "remove": case "apart": case "quadsOf": return next(x.count(1) + 1);
            case "quad": return index == 0 ? next(x.count(3) + 1) : next(10);
            case "opposite": return index == 0 ? next(x.count(3) + 1) : next(v);
            case "switchQuad": case "wouldHave": return next(x.count(3) + 1);
            case "descend": return next(22);
            case "cyclesOf": case "trades": return 2 * next(8);
            case "trade": return index == 0 ? 4 + 2 * next(5) : next(20);
            case "trainProfile": return next(12);
            case "isTurned": case "turn": return next(40) - 20;
            case "closure": return next(1 << v) & next(1 << v) & next(1 << v);
            case "uncovered": return next(x.count(2) + 2);
            case "outputByte": return next(30);
            case "truncateInput": return next(60);
            default: break;
        }
        if (POINTS.contains(m.getName())) {
            if (m.getName().startsWith("cycle") && index == 2) return next(3);
            if (m.getName().equals("switchCycle") && index == 2) return next(3);
            if (m.getName().equals("wouldHaveBy") && index == 2) return next(3);
            if (index == 3) return next(13);
            return next(v + (next(10) == 0 ? 1 : 0));
        }
        return next(50);
    }

    private static Object outcome(Method m, Object on, Object[] arguments) throws IllegalAccessException {
        try {
            return m.invoke(on, arguments);
        } catch (InvocationTargetException e) {
            return e.getCause().getClass().getSimpleName();
        }
    }

    private static String told(Method m, Object[] arguments) {
        return m.getName() + Arrays.toString(arguments);
    }

    private static void load(Model model, String text) {
        int before = model.appendInput(0, 0, 0, 0, 0) - 20;
        model.truncateInput(before);
        for (int i = 0; i < text.length(); i += 20) {
            int[] w = new int[5];
            for (int k = 0; k < 20; k++)
                w[k / 4] = w[k / 4] << 8 | (i + k < text.length() ? text.charAt(i + k) & 255 : 0);
            model.appendInput(w[0], w[1], w[2], w[3], w[4]);
        }
        model.truncateInput(before + text.length());
        model.loadSystem();
    }

    private void run(int number, String text) throws ReflectiveOperationException {
        TripleTrains x = Check.loaded(text);
        Model model = new Model();
        load(model, text);
        // With the two questions behind each call, and the load, these stay under 512 calls.
        for (int call = 0; call < 120; call++) {
            Method m = face[next(face.length)];
            if (RARE.contains(m.getName()) && next(4) != 0) continue;
            Object[] arguments = new Object[m.getParameterCount()];
            for (int i = 0; i < arguments.length; i++) arguments[i] = argument(m, i, m.getParameterTypes()[i], model);
            Method same = Model.class.getMethod(m.getName(), m.getParameterTypes());
            Object want = outcome(same, model, arguments);
            Object got = outcome(m, x, arguments);
            Check.due("run " + number + ", call " + call + " of " + text + ": " + told(m, arguments), want, got);
            compareSystems("run " + number + " behind call " + call + " " + told(m, arguments), x, model);
        }
    }

    private static void compareSystems(String where, TripleTrains x, Model model) {
        int n = x.count(1);
        Check.due(where + " triples", model.count(1), n);
        Check.due(where + " quadrilaterals", model.count(3), x.count(3));
    }

    public static void main(String[] args) throws ReflectiveOperationException {
        int runs = args.length > 0 ? Integer.parseInt(args[0]) : 170;
        long first = args.length > 1 ? Long.parseLong(args[1]) : 7;
        ModelTest test = new ModelTest(first);
        for (int i = 0; i < runs; i++) test.run(i, TEXTS[i % TEXTS.length]);
        Check.end();
    }
}
