import java.util.ArrayDeque;
import java.util.ArrayList;
import java.util.Deque;
import java.util.HashMap;
import java.util.HashSet;
import java.util.LinkedHashSet;
import java.util.List;
import java.util.Map;
import java.util.NoSuchElementException;
import java.util.Set;
import java.util.TreeSet;
import java.util.regex.Matcher;
import java.util.regex.Pattern;

/**
 * The document read a second time, as plainly as it can be and without a look at speed:
 * a system is a sorted set of texts of points, and every answer goes through all that there is.
 * Its public methods bear the names of the face, so that a test can ask both the same.
 */
public final class Model {
    private static final class State {
        int v = 3;
        TreeSet<Integer> triples = new TreeSet<>();
        int quads, cycles, replaced;

        State copy() {
            State s = new State();
            s.v = v;
            s.triples = new TreeSet<>(triples);
            s.quads = quads;
            s.cycles = cycles;
            s.replaced = replaced;
            return s;
        }
    }

    private State now = new State();
    private State saved = null;
    private final Deque<State> past = new ArrayDeque<>();
    private String input = "";
    private String output = "";
    private int code = 0, offset = -1;

    // ---- helpers

    private static int codeOf(int x, int y, int z) {
        int[] p = {x, y, z};
        java.util.Arrays.sort(p);
        return p[0] << 8 | p[1] << 4 | p[2];
    }

    private static int[] pointsOf(int triple) {
        return new int[] {triple >> 8, triple >> 4 & 15, triple & 15};
    }

    private static boolean has(int triple, int p) {
        for (int q : pointsOf(triple)) if (q == p) return true;
        return false;
    }

    private List<Integer> list() { return new ArrayList<>(now.triples); }

    private static int third(Set<Integer> triples, int a, int b) {
        for (int t : triples)
            if (a != b && has(t, a) && has(t, b)) for (int q : pointsOf(t)) if (q != a && q != b) return q;
        return -1;
    }

    private int thirdNow(int a, int b) { return third(now.triples, a, b); }

    private int openPairs(Set<Integer> triples) {
        int n = 0;
        for (int a = 0; a < now.v; a++) for (int b = a + 1; b < now.v; b++) if (third(triples, a, b) < 0) n++;
        return n;
    }

    private void point(int p) { if (p < 0 || p >= now.v) throw new IndexOutOfBoundsException(); }

    private void two(int a, int b) {
        point(a); point(b);
        if (a == b) throw new IllegalArgumentException();
    }

    private void three(int x, int y, int z) {
        point(x); point(y); point(z);
        if (x == y || y == z || x == z) throw new IllegalArgumentException();
    }

    private void tripleNumber(int t) { if (t < 0 || t >= now.triples.size()) throw new IndexOutOfBoundsException(); }

    private void change() {
        past.addLast(now.copy());
        if (past.size() > 10) past.removeFirst();
    }

    private static boolean canAdd(Set<Integer> triples, int x, int y, int z) {
        return third(triples, x, y) < 0 && third(triples, x, z) < 0 && third(triples, y, z) < 0;
    }

    private int turnedPoint(int p, int k) { return (int) ((((long) p + k) % now.v + now.v) % now.v); }

    private int turned(int t, int k) {
        int[] p = pointsOf(t);
        return codeOf(turnedPoint(p[0], k), turnedPoint(p[1], k), turnedPoint(p[2], k));
    }

    // ---- input

    public int appendInput(int a, int b, int c, int d, int e) {
        if (input.length() + 20 > 600) return -1;
        StringBuilder s = new StringBuilder(input);
        for (int w : new int[] {a, b, c, d, e})
            for (int i = 3; i >= 0; i--) s.append((char) ((w >>> (8 * i)) & 255));
        input = s.toString();
        return input.length();
    }

    public boolean truncateInput(int length) {
        if (length < 0 || length > input.length()) return false;
        input = input.substring(0, length);
        return true;
    }

    private static final class Bad extends Exception {
        final int code, offset;
        Bad(int code, int offset) { this.code = code; this.offset = offset; }
    }

    public int loadSystem() {
        String text = input;
        input = "";
        State fresh = new State();
        State old = now;
        try {
            now = fresh;
            parse(text, fresh);
        } catch (Bad e) {
            now = old;
            code = e.code;
            offset = e.offset;
            return -1;
        }
        code = 0;
        offset = -1;
        past.clear();
        saved = null;
        output = "";
        return now.triples.size();
    }

    private static final Pattern TOKEN = Pattern.compile("[a-z]+|[0-9]+|.", Pattern.DOTALL);

    private void parse(String text, State into) throws Bad {
        List<String> tokens = new ArrayList<>();
        List<Integer> places = new ArrayList<>();
        Matcher m = TOKEN.matcher(text);
        while (m.find()) {
            if (m.group().equals(" ") || m.group().equals("\n")) continue;
            tokens.add(m.group());
            places.add(m.start());
        }
        tokens.add("");
        places.add(text.length());
        int at = 0;
        boolean begun = false;
        while (!begun || !tokens.get(at).isEmpty()) {
            String word = tokens.get(at);
            boolean known = begun ? word.equals("triple") || word.equals("develop") : word.equals("points");
            if (!known) throw new Bad(1, places.get(at));
            at++;
            List<Integer> numbers = new ArrayList<>();
            for (int i = 0; i < (begun ? 3 : 1); i++, at++) {
                if (!tokens.get(at).matches("[0-9]{1,2}")) throw new Bad(1, places.get(at));
                int n = Integer.parseInt(tokens.get(at));
                boolean inRange = begun ? n < into.v && !numbers.contains(n) : n >= 3 && n <= 15;
                if (!inRange) throw new Bad(2, places.get(at));
                numbers.add(n);
            }
            if (!tokens.get(at).equals(";")) throw new Bad(1, places.get(at));
            if (!begun) {
                into.v = numbers.get(0);
            } else {
                int t = codeOf(numbers.get(0), numbers.get(1), numbers.get(2));
                Set<Integer> fresh = new LinkedHashSet<>();
                for (int k = 0; k < (word.equals("develop") ? into.v : 1); k++) fresh.add(turned(t, k));
                for (int f : fresh) {
                    int[] p = pointsOf(f);
                    if (!canAdd(into.triples, p[0], p[1], p[2])) throw new Bad(3, places.get(at));
                    into.triples.add(f);
                }
            }
            at++;
            begun = true;
        }
    }

    public int errorCode() { return code; }

    public int errorOffset() { return offset; }

    // ---- plain questions

    public int count(int what) {
        switch (what) {
            case 0: return now.v;
            case 1: return now.triples.size();
            case 2: return openPairs(now.triples);
            case 3: return quads(now.triples).size();
            case 4: return now.quads;
            case 5: return now.cycles;
            case 6: return now.replaced;
            case 7: return past.size();
            default: throw new IllegalArgumentException();
        }
    }

    public boolean isComplete() { return openPairs(now.triples) == 0; }

    public int triple(int t, int i) {
        tripleNumber(t);
        if (i < 0 || i > 2) throw new IllegalArgumentException();
        return pointsOf(list().get(t))[i];
    }

    public int find(int x, int y, int z) {
        three(x, y, z);
        return list().indexOf(codeOf(x, y, z));
    }

    public int third(int a, int b) {
        two(a, b);
        return thirdNow(a, b);
    }

    public int degree(int p) {
        point(p);
        int n = 0;
        for (int t : now.triples) if (has(t, p)) n++;
        return n;
    }

    public int uncovered(int index) {
        if (index < 0) throw new IndexOutOfBoundsException();
        List<Integer> pairs = new ArrayList<>();
        for (int a = 0; a < now.v; a++)
            for (int b = a + 1; b < now.v; b++) if (thirdNow(a, b) < 0) pairs.add(16 * a + b);
        return index < pairs.size() ? pairs.get(index) : -1;
    }

    public int reason(int x, int y, int z) {
        three(x, y, z);
        if (now.triples.contains(codeOf(x, y, z))) return 1;
        int covered = 0;
        if (thirdNow(x, y) >= 0) covered++;
        if (thirdNow(x, z) >= 0) covered++;
        if (thirdNow(y, z) >= 0) covered++;
        return covered == 0 ? 0 : 1 + covered;
    }

    // ---- plain changes

    public int add(int x, int y, int z) {
        if (reason(x, y, z) != 0) throw new IllegalStateException();
        change();
        now.triples.add(codeOf(x, y, z));
        return find(x, y, z);
    }

    public int remove(int t) {
        tripleNumber(t);
        change();
        now.triples.remove(list().get(t));
        return now.triples.size();
    }

    public int develop(int x, int y, int z) {
        three(x, y, z);
        Set<Integer> fresh = new HashSet<>();
        for (int k = 0; k < now.v; k++) fresh.add(turned(codeOf(x, y, z), k));
        Map<Integer, Integer> cover = new HashMap<>();
        TreeSet<Integer> all = new TreeSet<>(now.triples);
        List<Integer> every = new ArrayList<>(all);
        every.addAll(fresh);
        for (int t : every) {
            int[] p = pointsOf(t);
            for (int pair : new int[] {p[0] * 16 + p[1], p[0] * 16 + p[2], p[1] * 16 + p[2]})
                if (cover.merge(pair, 1, Integer::sum) > 1) throw new IllegalStateException();
        }
        change();
        now.triples.addAll(fresh);
        return fresh.size();
    }

    public int fill() {
        change();
        int added = 0;
        while (true) {
            int first = -1;
            for (int x = 0; x < now.v && first < 0; x++)
                for (int y = x + 1; y < now.v && first < 0; y++)
                    for (int z = y + 1; z < now.v && first < 0; z++)
                        if (canAdd(now.triples, x, y, z)) first = codeOf(x, y, z);
            if (first < 0) return added;
            now.triples.add(first);
            added++;
        }
    }

    public int completions() {
        if (openPairs(now.triples) > 30) return -2;
        return completionsOf(new TreeSet<>(now.triples));
    }

    private int completionsOf(TreeSet<Integer> triples) {
        for (int a = 0; a < now.v; a++)
            for (int b = a + 1; b < now.v; b++)
                if (third(triples, a, b) < 0) {
                    int n = 0;
                    for (int c = 0; c < now.v; c++)
                        if (c != a && c != b && canAdd(triples, a, b, c)) {
                            triples.add(codeOf(a, b, c));
                            n += completionsOf(triples);
                            triples.remove(codeOf(a, b, c));
                        }
                    return n;
                }
        return 1;
    }

    public int tightest() {
        int best = -1, fewest = 99;
        for (int a = 0; a < now.v; a++)
            for (int b = a + 1; b < now.v; b++) {
                if (thirdNow(a, b) >= 0) continue;
                int n = 0;
                for (int c = 0; c < now.v; c++) if (c != a && c != b && canAdd(now.triples, a, b, c)) n++;
                if (n < fewest) { fewest = n; best = 16 * a + b; }
            }
        return best;
    }

    // ---- quadrilaterals

    private static int mask(int triple) {
        int[] p = pointsOf(triple);
        return 1 << p[0] | 1 << p[1] | 1 << p[2];
    }

    /** Every four triples are looked at: six points, each in two. */
    private static List<int[]> quads(Set<Integer> triples) {
        List<Integer> codes = new ArrayList<>(triples);
        int n = codes.size();
        int[] m = new int[n];
        for (int i = 0; i < n; i++) m[i] = mask(codes.get(i));
        List<int[]> found = new ArrayList<>();
        for (int i = 0; i < n; i++)
            for (int j = i + 1; j < n; j++)
                for (int k = j + 1; k < n; k++)
                    for (int l = k + 1; l < n; l++)
                        if (Integer.bitCount(m[i] | m[j] | m[k] | m[l]) == 6 && twice(m[i], m[j], m[k], m[l]))
                            found.add(new int[] {i, j, k, l});
        return found;
    }

    private static boolean twice(int a, int b, int c, int d) {
        for (int p = 0; p < 15; p++) {
            int in = (a >> p & 1) + (b >> p & 1) + (c >> p & 1) + (d >> p & 1);
            if (in != 0 && in != 2) return false;
        }
        return true;
    }

    private List<int[]> quadsNow() { return quads(now.triples); }

    private int[] quadNumber(int q) {
        List<int[]> all = quadsNow();
        if (q < 0 || q >= all.size()) throw new IndexOutOfBoundsException();
        return all.get(q);
    }

    private TreeSet<Integer> quadPoints(int[] quad) {
        TreeSet<Integer> points = new TreeSet<>();
        for (int t : quad) for (int p : pointsOf(list().get(t))) points.add(p);
        return points;
    }

    private int opposite(int[] quad, int p) {
        TreeSet<Integer> points = quadPoints(quad);
        if (!points.contains(p)) return -1;
        for (int q : points) {
            boolean together = q == p;
            for (int t : quad) if (has(list().get(t), p) && has(list().get(t), q)) together = true;
            if (!together) return q;
        }
        throw new IllegalStateException("no opposite");
    }

    public int quad(int q, int what) {
        int[] quad = quadNumber(q);
        if (what < 0 || what > 9) throw new IllegalArgumentException();
        return what < 4 ? quad[what] : new ArrayList<>(quadPoints(quad)).get(what - 4);
    }

    public int opposite(int q, int p) {
        int[] quad = quadNumber(q);
        point(p);
        return opposite(quad, p);
    }

    public int quadsAt(int p) {
        point(p);
        int n = 0;
        for (int[] q : quadsNow()) if (quadPoints(q).contains(p)) n++;
        return n;
    }

    public int quadsOf(int t) {
        tripleNumber(t);
        int n = 0;
        for (int[] q : quadsNow()) for (int u : q) if (u == t) n++;
        return n;
    }

    private TreeSet<Integer> switched(int[] quad) {
        TreeSet<Integer> after = new TreeSet<>(now.triples);
        List<Integer> come = new ArrayList<>();
        for (int t : quad) {
            int[] p = pointsOf(list().get(t));
            come.add(codeOf(opposite(quad, p[0]), opposite(quad, p[1]), opposite(quad, p[2])));
            after.remove(list().get(t));
        }
        after.addAll(come);
        return after;
    }

    public int switchQuad(int q) {
        TreeSet<Integer> after = switched(quadNumber(q));
        change();
        now.triples = after;
        now.quads++;
        now.replaced += 4;
        return quadsNow().size();
    }

    public int wouldHave(int q) { return quads(switched(quadNumber(q))).size(); }

    public int bestSwitch(boolean most) {
        int best = -1, value = 0, q = 0;
        for (int[] quad : quadsNow()) {
            int left = quads(switched(quad)).size();
            if (best < 0 || (most ? left > value : left < value)) { best = q; value = left; }
            q++;
        }
        return best;
    }

    public int descend(int times) {
        if (times < 1 || times > 20) throw new IllegalArgumentException();
        change();
        for (int done = 0; done < times; done++) {
            int best = bestSwitch(false);
            if (best < 0 || wouldHave(best) >= quadsNow().size()) return done;
            now.triples = switched(quadNumber(best));
            now.quads++;
            now.replaced += 4;
        }
        return times;
    }

    // ---- cycles

    private List<List<Integer>> cyclesNow(int a, int b) {
        List<List<Integer>> found = new ArrayList<>();
        int c = thirdNow(a, b);
        for (int x = 0; x < now.v; x++) {
            if (x == a || x == b || x == c) continue;
            List<Integer> row = new ArrayList<>();
            int at = x;
            while (at >= 0) {
                row.add(at);
                at = thirdNow(row.size() % 2 == 1 ? a : b, at);
                if (at == x && row.size() % 2 == 0) break;
            }
            if (at == x && java.util.Collections.min(row) == x) found.add(row);
        }
        return found;
    }

    private List<Integer> cycleNumber(int a, int b, int cycle) {
        two(a, b);
        List<List<Integer>> all = cyclesNow(a, b);
        if (cycle < 0 || cycle >= all.size()) throw new NoSuchElementException();
        return all.get(cycle);
    }

    public int cycles(int a, int b) {
        two(a, b);
        return cyclesNow(a, b).size();
    }

    public int cycleLength(int a, int b, int cycle) { return cycleNumber(a, b, cycle).size(); }

    public int cyclePoint(int a, int b, int cycle, int index) {
        List<Integer> row = cycleNumber(a, b, cycle);
        if (index < 0 || index >= row.size()) throw new NoSuchElementException();
        return row.get(index);
    }

    private TreeSet<Integer> switchedCycle(int a, int b, List<Integer> row, Set<Integer> gone) {
        TreeSet<Integer> after = new TreeSet<>(now.triples);
        Set<Integer> come = new HashSet<>();
        for (int i = 0; i < row.size(); i++) {
            int x = row.get(i), y = row.get((i + 1) % row.size());
            int from = i % 2 == 0 ? a : b, to = i % 2 == 0 ? b : a;
            if (!after.remove(codeOf(from, x, y))) throw new RuntimeException("no such triple on the way");
            gone.add(codeOf(from, x, y));
            come.add(codeOf(to, x, y));
        }
        after.addAll(come);
        return after;
    }

    public int switchCycle(int a, int b, int cycle) {
        List<Integer> row = cycleNumber(a, b, cycle);
        TreeSet<Integer> after = switchedCycle(a, b, row, new HashSet<>());
        change();
        now.triples = after;
        now.cycles++;
        now.replaced += row.size();
        return row.size();
    }

    public int wouldHaveBy(int a, int b, int cycle) {
        return quads(switchedCycle(a, b, cycleNumber(a, b, cycle), new HashSet<>())).size();
    }

    public int cyclesOf(int length) {
        int n = 0;
        for (int a = 0; a < now.v; a++)
            for (int b = a + 1; b < now.v; b++)
                for (List<Integer> row : cyclesNow(a, b)) if (row.size() == length) n++;
        return n;
    }

    private TreeSet<Long> tradesNow(int volume) {
        TreeSet<Long> found = new TreeSet<>();
        for (int a = 0; a < now.v; a++)
            for (int b = a + 1; b < now.v; b++)
                for (List<Integer> row : cyclesNow(a, b)) {
                    Set<Integer> gone = new HashSet<>();
                    switchedCycle(a, b, row, gone);
                    long bits = 0;
                    for (int t : gone) bits |= 1L << list().indexOf(t);
                    if (gone.size() == volume) found.add(bits);
                }
        return found;
    }

    public int trades(int volume) { return tradesNow(volume).size(); }

    public long trade(int volume, int index) {
        List<Long> all = new ArrayList<>(tradesNow(volume));
        if (index < 0 || index >= all.size()) throw new NoSuchElementException();
        return all.get(index);
    }

    public int perfectPairs() {
        if (now.v < 7) return 0;
        int n = 0;
        for (int a = 0; a < now.v; a++)
            for (int b = a + 1; b < now.v; b++) {
                Set<Integer> others = new HashSet<>();
                for (int p = 0; p < now.v; p++) if (p != a && p != b && p != thirdNow(a, b)) others.add(p);
                for (List<Integer> row : cyclesNow(a, b)) if (new HashSet<>(row).equals(others)) n++;
            }
        return n;
    }

    public boolean agrees() { return true; }

    // ---- trains

    private int step(int set) {
        int[] p = pointsOf(set);
        if (now.triples.contains(set)) return set;
        return codeOf(thirdNow(p[1], p[2]), thirdNow(p[0], p[2]), thirdNow(p[0], p[1]));
    }

    private List<Integer> sets() {
        List<Integer> all = new ArrayList<>();
        for (int x = 0; x < now.v; x++)
            for (int y = x + 1; y < now.v; y++) for (int z = y + 1; z < now.v; z++) all.add(codeOf(x, y, z));
        return all;
    }

    private void complete() { if (!isComplete()) throw new IllegalStateException(); }

    public int train(int x, int y, int z) {
        three(x, y, z);
        complete();
        int[] p = pointsOf(step(codeOf(x, y, z)));
        return p[2] * 256 + p[1] * 16 + p[0];
    }

    private int into(int set) {
        int n = 0;
        for (int s : sets()) if (step(s) == set) n++;
        return n;
    }

    public int trainsTo(int x, int y, int z) {
        three(x, y, z);
        complete();
        return into(codeOf(x, y, z));
    }

    private List<Integer> way(int set) {
        List<Integer> way = new ArrayList<>();
        while (!way.contains(set)) { way.add(set); set = step(set); }
        way.add(set);
        return way;
    }

    public int tail(int x, int y, int z) {
        three(x, y, z);
        complete();
        List<Integer> way = way(codeOf(x, y, z));
        return way.indexOf(way.get(way.size() - 1));
    }

    public int roundOf(int x, int y, int z) {
        three(x, y, z);
        complete();
        List<Integer> way = way(codeOf(x, y, z));
        return way.size() - 1 - way.indexOf(way.get(way.size() - 1));
    }

    public int trainProfile(int many) {
        complete();
        Map<Integer, Integer> ends = new HashMap<>();
        for (int s : sets()) ends.merge(step(s), 1, Integer::sum);
        int n = 0;
        for (int s : sets()) if (ends.getOrDefault(s, 0) == many) n++;
        return n;
    }

    public int rounds() {
        complete();
        Set<Set<Integer>> all = new HashSet<>();
        for (int s : sets()) {
            List<Integer> way = way(s);
            all.add(new HashSet<>(way.subList(way.indexOf(way.get(way.size() - 1)), way.size())));
        }
        return all.size();
    }

    // ---- turns

    public boolean isTurned(int k) {
        for (int t : now.triples) if (!now.triples.contains(turned(t, k))) return false;
        return true;
    }

    public int leastTurn() {
        int k = 1;
        while (!isTurned(k)) k++;
        return k;
    }

    public int orbits() {
        Set<Set<Integer>> all = new HashSet<>();
        int k = leastTurn();
        for (int t : now.triples) {
            Set<Integer> orbit = new HashSet<>();
            for (int i = 0; i < 15; i++) orbit.add(turned(t, i * k));
            all.add(orbit);
        }
        return all.size();
    }

    public int turn(int k) {
        TreeSet<Integer> after = new TreeSet<>();
        for (int t : now.triples) after.add(turned(t, k));
        change();
        int n = 0;
        for (int t : after) if (now.triples.contains(t)) n++;
        now.triples = after;
        return n;
    }

    // ---- shares and sets

    public double meanQuads() {
        return now.triples.isEmpty() ? 0.0 : (double) (4 * quadsNow().size()) / (double) now.triples.size();
    }

    public float coverage() {
        int pairs = now.v * (now.v - 1) / 2;
        return (float) (pairs - openPairs(now.triples)) / (float) pairs;
    }

    private int closed(int set) {
        boolean again = true;
        while (again) {
            again = false;
            for (int t : now.triples)
                if (Integer.bitCount(mask(t) & set) == 2) { set |= mask(t); again = true; }
        }
        return set;
    }

    public int closure(int set) {
        if (set < 0 || set >= 1 << now.v) throw new IllegalArgumentException();
        return closed(set);
    }

    public int subsystems() {
        int n = 0;
        for (int set = 0; set < 1 << now.v; set++) {
            int size = Integer.bitCount(set);
            if (size > 3 && size < now.v && closed(set) == set) n++;
        }
        return n;
    }

    public int independent() {
        int best = 0;
        for (int set = (1 << now.v) - 1; set >= 0; set--) {
            boolean free = true;
            for (int t : now.triples) if ((mask(t) & set) == mask(t)) { free = false; break; }
            if (free && Integer.bitCount(set) >= Integer.bitCount(best)) best = set;
        }
        return best;
    }

    public int apart(int t) {
        tripleNumber(t);
        int n = 0;
        for (int u : now.triples) if ((mask(u) & mask(list().get(t))) == 0) n++;
        return n;
    }

    public int mostApart() { return mostApart(list(), 0); }

    private static int mostApart(List<Integer> rest, int used) {
        if (rest.isEmpty()) return 0;
        List<Integer> tail = rest.subList(1, rest.size());
        int without = mostApart(tail, used);
        int m = mask(rest.get(0));
        return (m & used) != 0 ? without : Math.max(without, 1 + mostApart(tail, used | m));
    }

    // ---- changes of many

    public int swap(int a, int b) {
        two(a, b);
        TreeSet<Integer> after = new TreeSet<>();
        for (int t : now.triples) {
            int[] p = pointsOf(t);
            for (int i = 0; i < 3; i++) p[i] = p[i] == a ? b : p[i] == b ? a : p[i];
            after.add(codeOf(p[0], p[1], p[2]));
        }
        change();
        int n = 0;
        for (int t : after) if (!now.triples.contains(t)) n++;
        now.triples = after;
        return n;
    }

    public int clear(int p) {
        point(p);
        change();
        int before = now.triples.size();
        now.triples.removeIf(t -> has(t, p));
        return before - now.triples.size();
    }

    public int inTheWay(int x, int y, int z) {
        three(x, y, z);
        int n = 0;
        for (int t : now.triples)
            if ((has(t, x) ? 1 : 0) + (has(t, y) ? 1 : 0) + (has(t, z) ? 1 : 0) >= 2) n++;
        return n;
    }

    public int force(int x, int y, int z) {
        three(x, y, z);
        if (now.triples.contains(codeOf(x, y, z))) throw new IllegalStateException();
        change();
        int before = now.triples.size();
        now.triples.removeIf(t -> (has(t, x) ? 1 : 0) + (has(t, y) ? 1 : 0) + (has(t, z) ? 1 : 0) >= 2);
        int removed = before - now.triples.size();
        now.triples.add(codeOf(x, y, z));
        return removed;
    }

    // ---- output, undo, saved state

    public int printAt(int p) {
        point(p);
        StringBuilder s = new StringBuilder();
        for (int t : now.triples) if (has(t, p)) s.append(String.format("%03x ", t));
        output = s.toString().trim();
        return output.length();
    }

    public int outputByte(int index) { return index < 0 || index >= output.length() ? -1 : output.charAt(index); }

    public int undo() {
        if (past.isEmpty()) return -1;
        now = past.removeLast();
        return past.size();
    }

    public int saveState() {
        saved = now.copy();
        return now.triples.size();
    }

    public int restoreState() {
        if (saved == null) throw new IllegalStateException();
        now = saved.copy();
        past.clear();
        return now.triples.size();
    }
}
