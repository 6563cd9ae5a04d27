import java.util.ArrayDeque;
import java.util.ArrayList;
import java.util.Arrays;
import java.util.Comparator;
import java.util.Deque;
import java.util.HashMap;
import java.util.List;
import java.util.Map;

/**
 * The document once more, in the slowest and plainest form, with the Java library: every question
 * makes its people anew and tries all ways. FuzzTest holds MiddleOne against it.
 */
final class Oracle {
    static final int BAD = -1, NOT = -2, FULL = -3, STATE = -5, VOID = -2000000000;

    static final class One {
        int k;
        int[] v;
        One(int k, int... v) { this.k = k; this.v = v; }
        One copy() { return new One(k, v.clone()); }
        boolean there(int s) { return v[1] <= s && s < v[1] + v[2]; }
    }

    interface Node { int value(int[] names); }
    record Line(Node first, Node counts) { }

    final List<One> people = new ArrayList<>();
    StringBuilder tape = new StringBuilder();
    List<Line> law = null;
    int now = 0;
    Map<Integer, Integer> in = new HashMap<>();
    List<Integer> away = new ArrayList<>();
    int[] led = new int[5];
    Object[] kept = null;
    final Deque<int[]> undo = new ArrayDeque<>();
    final Deque<int[]> redo = new ArrayDeque<>();
    final List<Strokes.Stroke> bodies = new ArrayList<>();
    List<Integer> trace = new ArrayList<>();
    final Object[] shelves = new Object[6];

    // ---- the law, straight from the grammar: which stretches of the text are an E, an A, ..

    static final class Grammar {
        static final String[] JOINERS = {"|", "&", "<=>", "+-", "*/%"};
        final String text;
        final Map<Integer, Object[]> memo = new HashMap<>();
        Grammar(String text) { this.text = text; }

        /** {node, how many are open at most} of the stretch from i to j as layer r, or null. */
        Object[] layer(int r, int i, int j) {
            int key = (r * 200 + i) * 200 + j;
            if (!memo.containsKey(key)) memo.put(key, r == 5 ? operand(i, j) : joined(r, i, j));
            return memo.get(key);
        }

        Object[] joined(int r, int i, int j) {
            Object[] alone = layer(r + 1, i, j);
            if (alone != null) return alone;
            for (int m = i + 1; m < j - 1; m++) {
                char c = text.charAt(m);
                if (JOINERS[r].indexOf(c) < 0) continue;
                Object[] right = layer(r + 1, m + 1, j);
                if (right == null) continue;
                Object[] left = layer(r == 2 ? r + 1 : r, i, m);
                if (left == null) continue;
                Node a = (Node) left[0], b = (Node) right[0];
                return new Object[] {join(c, a, b), Math.max((int) left[1], (int) right[1])};
            }
            return null;
        }

        static Node join(char c, Node a, Node b) {
            return v -> {
                int x = a.value(v), y = b.value(v);
                switch (c) {
                    case '|': return x != 0 || y != 0 ? 1 : 0;
                    case '&': return x != 0 && y != 0 ? 1 : 0;
                    case '<': return x < y ? 1 : 0;
                    case '=': return x == y ? 1 : 0;
                    case '>': return x > y ? 1 : 0;
                    case '+': return (int) ((long) x + y);
                    case '-': return (int) ((long) x - y);
                    case '*': return (int) ((long) x * y);
                    case '/': return y == 0 ? 0 : (int) ((long) x / y);
                    default: return y == 0 ? 0 : (int) ((long) x % y);
                }
            };
        }

        Object[] operand(int i, int j) {
            if (i >= j) return null;
            String t = text.substring(i, j);
            if (t.matches("[0-9]{1,4}")) {
                int number = Integer.parseInt(t);
                return new Object[] {(Node) v -> number, 0};
            }
            if (t.length() == 1 && "hewskn".contains(t)) {
                int name = "hewskn".indexOf(t);
                return new Object[] {(Node) v -> v[name], 0};
            }
            Object[] part = null;
            char c = t.charAt(0);
            if (c == '!' || c == '-') part = layer(5, i + 1, j);
            if (c == '(' && t.length() > 2 && t.endsWith(")")) part = layer(0, i + 1, j - 1);
            if (part == null) return null;
            Node a = (Node) part[0];
            Node whole = c == '!' ? v -> a.value(v) == 0 ? 1 : 0 : c == '-' ? v -> -a.value(v) : a;
            return new Object[] {whole, 1 + (int) part[1]};
        }
    }

    static List<Line> lines(String text) {
        List<Line> lines = new ArrayList<>();
        for (String line : text.split(";", -1)) {
            String[] parts = line.split("\\?", -1);
            if (parts.length > 2) return null;
            Node[] nodes = new Node[parts.length];
            for (int q = 0; q < parts.length; q++) {
                Object[] e = new Grammar(parts[q]).layer(0, 0, parts[q].length());
                if (e == null || (int) e[1] > 6) return null;
                nodes[q] = (Node) e[0];
            }
            lines.add(parts.length == 2 ? new Line(nodes[0], nodes[1]) : new Line(null, nodes[0]));
        }
        return lines;
    }

    /** Whether some text begins so: by an operand at most, and by closing what is open. */
    static boolean goesOn(String start) {
        String end = "";
        for (int closed = 0; closed <= 6; closed++) {
            if (lines(start + end) != null || lines(start + "0" + end) != null) return true;
            end += ")";
        }
        return false;
    }

    static int fault(String text) {
        for (int i = 0; i < text.length(); i++) {
            if (!goesOn(text.substring(0, i + 1))) return i;
        }
        return lines(text) != null ? -1 : text.length();
    }

    int tallness(One p, int s, int n) {
        if (law == null) return p.v[0] + p.v[3];
        int[] names = {p.v[0], p.v[3], s - p.v[1], s, p.k, n};
        for (Line line : law) {
            if (line.first() == null || line.first().value(names) != 0) return line.counts().value(names);
        }
        return 0;
    }

    // ---- days

    List<One> copy() {
        List<One> all = new ArrayList<>();
        for (One p : people) all.add(p.copy());
        return all;
    }

    /** How: 0 to 4 a place by fourths, 5 the middle one. */
    One picked(List<One> waiting, int s, int how) {
        int w = waiting.size();
        if (w == 0 || how == 5 && w % 2 == 0) return null;
        List<One> sorted = new ArrayList<>(waiting);
        sorted.sort(Comparator.comparingInt((One p) -> tallness(p, s, w)).thenComparingInt(p -> p.k));
        return sorted.get(how == 5 ? w / 2 : how * (w - 1) / 4);
    }

    /** A day: who is in when; at each stroke who (-1), and how many waited. */
    static final class Told {
        final Map<Integer, Integer> in = new HashMap<>();
        final List<Integer> who = new ArrayList<>();
        final List<Integer> waited = new ArrayList<>();
        int at(int p) { return in.getOrDefault(p, NOT); }
    }

    Told told(List<One> all, int n, int set, int how) {
        Told t = new Told();
        for (int s = 0; s < n; s++) {
            List<One> first = new ArrayList<>(), second = new ArrayList<>();
            for (One p : all) {
                if (p.there(s) && !t.in.containsKey(p.k)) ((set >> p.k & 1) != 0 ? second : first).add(p);
            }
            One a = picked(first, s, how), b = picked(second, s, 4);
            if (a != null) t.in.put(a.k, s);
            if (b != null) t.in.put(b.k, s);
            t.who.add(a == null ? -1 : a.k);
            t.waited.add(first.size());
        }
        return t;
    }

    Told told(List<One> all, int n) { return told(all, n, 0, 5); }

    boolean is(int person) { return person >= 0 && person < people.size(); }
    static boolean within(int v, int from, int to) { return v >= from && v <= to; }
    static boolean fits(int what, int v) {
        int[] a = {100, 0, 1, 0, 0}, b = {220, 99, 99, 20, 99};
        return within(what, 0, 4) && within(v, a[what], b[what]);
    }

    int person(int height, int comes) {
        if (!fits(0, height) || !fits(1, comes)) return BAD;
        if (people.size() == 12) return FULL;
        people.add(new One(people.size(), height, comes, 99, 0, 5));
        return people.size() - 1;
    }

    int people(int shelf, int i, int n) {
        if (!within(shelf, 0, 5) || !within(n, 1, 12)) return BAD;
        if (shelves[shelf] != null && !(shelves[shelf] instanceof short[])) return -12;
        int came = 0;
        try {
            short[] r = (short[]) shelves[shelf];
            for (; came < n; came++) {
                int h = r[i++], c = r[i++], st = r[i++];
                if (!fits(0, h) || !fits(1, c) || !fits(2, st) || people.size() == 12) break;
                people.add(new One(people.size(), h, c, st, 0, 5));
            }
        } catch (NullPointerException | ArrayIndexOutOfBoundsException e) {
            return came;
        }
        return came;
    }

    int mend(int person, int what, int v) {
        if (!is(person) || !fits(what, v)) return BAD;
        int was = people.get(person).v[what];
        if (was != v) {
            undo.push(new int[] {person, what, was, v});
            if (undo.size() > 40) undo.removeLast();
            redo.clear();
            people.get(person).v[what] = v;
        }
        return was;
    }

    List<One> waiting() {
        List<One> w = new ArrayList<>();
        for (One p : people) if (p.there(now) && !in.containsKey(p.k) && !away.contains(p.k)) w.add(p);
        return w;
    }

    int of(int person, int what) {
        if (!is(person)) return BAD;
        if (within(what, 0, 4)) return people.get(person).v[what];
        if (what == 10) return waiting().contains(people.get(person)) ? 1 : 0;
        return what == 11 ? in.getOrDefault(person, NOT) : BAD;
    }

    int feed(int letter) {
        if (!within(letter, 0, 255)) return BAD;
        if (tape.length() == 120) return FULL;
        tape.append((char) letter);
        return tape.length();
    }

    int law() {
        String text = tape.toString();
        tape = new StringBuilder();
        int fault = fault(text);
        if (fault >= 0) return -100 - fault;
        law = lines(text);
        return 1;
    }

    int tall(int person, int sn) {
        if (!is(person) || !within(sn, 0, 99999)) return VOID;
        return tallness(people.get(person), sn / 100, sn % 100);
    }

    int enters(int person, int n) {
        if (!is(person) || !within(n, 0, 100)) return BAD;
        return told(copy(), n).at(person);
    }

    int stroke(int s, int what) {
        if (!within(s, 0, 99) || !within(what, 0, 1)) return BAD;
        Told t = told(copy(), s + 1);
        if (what == 1) return t.waited.get(s);
        return t.who.get(s) < 0 ? NOT : t.who.get(s);
    }

    int day(int n, int what) {
        if (!within(n, 0, 100) || !within(what, 0, 2)) return BAD;
        Told t = told(copy(), n);
        if (what == 0) return t.in.size();
        if (what == 2) return t.waited.stream().mapToInt(x -> x).max().orElse(0);
        return (int) people.stream().filter(p -> t.at(p.k) == NOT && p.v[1] + p.v[2] <= n).count();
    }

    long mean(int n, int what, int part) {
        if (!within(n, 0, 100) || !within(what, 0, 1) || !within(part, 0, 1)) return Long.MIN_VALUE;
        Told t = told(copy(), n);
        if (t.in.isEmpty()) return NOT;
        long sum = 0;
        for (int p : t.in.keySet()) sum += what == 0 ? t.at(p) - people.get(p).v[1] : people.get(p).v[0];
        long below = t.in.size();
        for (long d = below; d > 1; d--) {
            if (sum % d == 0 && below % d == 0) {
                sum /= d;
                below /= d;
            }
        }
        return part == 0 ? sum : below;
    }

    int sent(int person, int sb, int what) {
        if (!is(person) || sb < 0 || !within(sb / 10, 0, 30) || !within(sb % 10, 0, 1) || !within(what, 0, 1)) return BAD;
        int s = sb / 10;
        int[] best = null;
        for (int set = 0; set < 1 << people.size(); set++) {
            if ((set >> person & 1) != 0) continue;
            List<One> come = new ArrayList<>();
            int price = 0;
            for (One p : people) {
                if ((set >> p.k & 1) == 0) come.add(p);
                else price += p.v[4];
            }
            int[] way = {price, Integer.bitCount(set), set};
            if (best != null && Arrays.compare(way, best) >= 0) continue;
            int at = told(come, s + 1).at(person);
            if (sb % 10 == 1 ? at >= 0 : at == s) best = way;
        }
        return best == null ? NOT : best[what * 2];
    }

    int brought(int person, int s, int what) {
        if (!is(person) || !within(s, 0, 99) || !within(what, 0, 1)) return BAD;
        for (int boys = 0; boys <= 3; boys++) {
            for (int h = 100; h <= 220; h++) {
                List<One> all = copy();
                for (int b = 0; b < boys; b++) all.add(new One(all.size(), h, s, 1, 0, 5));
                if (told(all, s + 1).at(person) == s) return what == 0 ? boys : boys == 0 ? 0 : h;
            }
        }
        return NOT;
    }

    int at(int person, int what, int v, int n) {
        List<One> all = copy();
        all.get(person).v[what] = v;
        return told(all, n).at(person);
    }

    int heels(int person, int n, int what) {
        if (!is(person) || !within(n, 0, 100) || !within(what, 0, 2)) return BAD;
        int bits = 0, best = NOT, first = 1000;
        for (int e = 0; e <= 20; e++) {
            int at = at(person, 3, e, n);
            if (at >= 0) bits |= 1 << e;
            if (at >= 0 && at < first) {
                first = at;
                best = e;
            }
        }
        if (what == 2) return bits;
        return bits == 0 ? NOT : what == 0 ? Integer.numberOfTrailingZeros(bits) : best;
    }

    int later(int person) {
        if (!is(person)) return BAD;
        int best = NOT, wait = 1000;
        for (int c = 0; c <= 99; c++) {
            int at = at(person, 1, c, 100);
            if (at >= 0 && at - c < wait) {
                wait = at - c;
                best = c;
            }
        }
        return best;
    }

    int allWear(int person) {
        if (person != -1 && !is(person)) return BAD;
        List<One> all = copy();
        for (int round = 1; round <= 20; round++) {
            boolean changed = false;
            for (One p : all) {
                int was = p.v[3], best = 0, first = 1000;
                for (int e = 0; e <= 20; e++) {
                    p.v[3] = e;
                    int at = told(all, 30).at(p.k);
                    if (at >= 0 && at < first) {
                        first = at;
                        best = e;
                    }
                }
                p.v[3] = best;
                changed |= best != was;
            }
            if (!changed) return person == -1 ? round : all.get(person).v[3];
        }
        return NOT;
    }

    // ---- gates

    int gates(int set, int person) {
        if (!within(set, 0, (1 << people.size()) - 1) || person != -1 && !is(person)) return BAD;
        Told t = told(copy(), 100, set, 5);
        return person == -1 ? t.in.size() : t.at(person);
    }

    int where(int person) {
        if (!is(person)) return BAD;
        int a = told(copy(), 100).at(person), b = told(copy(), 100, 1 << person, 5).at(person);
        if (a < 0 && b < 0) return NOT;
        return a < 0 || b >= 0 && b < a ? 1 : 0;
    }

    int bestSet(int n, int what) {
        if (!within(n, 0, 100) || !within(what, 0, 1)) return BAD;
        if (people.size() > 8) return STATE;
        int best = 0, most = -1;
        for (int set = 0; set < 1 << people.size(); set++) {
            int in = told(copy(), n, set, 5).in.size();
            if (in > most) {
                most = in;
                best = set;
            }
        }
        return what == 0 ? best : most;
    }

    int atLast() {
        Told t = told(copy(), 100);
        if (t.in.size() < people.size()) return NOT;
        return t.in.values().stream().mapToInt(x -> x).max().orElse(0);
    }

    int rule(int n) {
        if (!within(n, 0, 100)) return BAD;
        for (int p = 0; p <= 4; p++) if (told(copy(), n, 0, p).in.size() == people.size()) return p;
        return NOT;
    }

    // ---- days seen, drawn

    int refusedSeen(int shelf) {
        if (!within(shelf, 0, 5)) return BAD;
        if (shelves[shelf] == null) return -11;
        return shelves[shelf] instanceof byte[] ? 0 : -12;
    }

    int unlike(List<One> all, int shelf) {
        byte[] r = (byte[]) shelves[shelf];
        Told t = told(all, r.length);
        for (int s = 0; s < r.length; s++) if (t.who.get(s) != r[s]) return s;
        return NOT;
    }

    int judge(int shelf) {
        int refused = refusedSeen(shelf);
        return refused != 0 ? refused : unlike(copy(), shelf);
    }

    int with(int shelf, int what) {
        if (!within(what, 0, 1)) return BAD;
        int refused = refusedSeen(shelf);
        if (refused != 0) return refused;
        if (people.size() > 8) return STATE;
        List<Integer> fit = new ArrayList<>();
        for (int set = 0; set < 1 << people.size(); set++) {
            List<One> come = new ArrayList<>();
            for (One p : people) if ((set >> p.k & 1) != 0) come.add(p);
            if (unlike(come, shelf) == NOT) fit.add(set);
        }
        if (what == 0) return fit.size();
        return fit.stream().reduce((a, b) -> a & b).orElse(NOT);
    }

    int heeled(int shelf) {
        int refused = refusedSeen(shelf);
        if (refused != 0) return refused;
        if (people.size() > 8) return STATE;
        for (int set = 0; set < 1 << people.size(); set++) {
            List<One> all = copy();
            for (One p : all) if ((set >> p.k & 1) != 0) p.v[3] = Math.min(20, p.v[3] + 10);
            if (unlike(all, shelf) == NOT) return set;
        }
        return NOT;
    }

    int drawn(int seed, int n, int person) {
        if (!within(n, 1, 20) || person != -1 && !is(person)) return BAD;
        int z = seed, times = 0;
        for (int d = 0; d < n; d++) {
            List<One> all = copy();
            for (One p : all) {
                z = z * 1103515245 + 12345;
                p.v[1] = (z >>> 8) % 60;
            }
            Told t = told(all, 60);
            times += person == -1 ? t.in.size() : t.at(person) >= 0 ? 1 : 0;
        }
        return times;
    }

    // ---- in deed

    int strike() {
        if (now == 999) return STATE;
        List<One> w = waiting();
        One p = picked(w, now, 5);
        led[4] = Math.max(led[4], w.size());
        led[0]++;
        if (p != null) {
            in.put(p.k, now);
            led[1]++;
        }
        now++;
        return p == null ? NOT : p.k;
    }

    int take(int person) {
        if (!is(person)) return BAD;
        if (of(person, 10) == 0) return STATE;
        away.add(person);
        led[2]++;
        return now;
    }

    int dawn() {
        int were = in.size();
        in.clear();
        away.clear();
        now = 0;
        led[3]++;
        return were;
    }

    int led(int what) {
        if (!within(what, 0, 5)) return BAD;
        return what == 5 ? now : led[what];
    }

    int image() {
        kept = new Object[] {now, Map.copyOf(in), List.copyOf(away), led.clone()};
        return now;
    }

    @SuppressWarnings("unchecked")
    int back() {
        if (kept == null) return STATE;
        now = (int) kept[0];
        in = new HashMap<>((Map<Integer, Integer>) kept[1]);
        away = new ArrayList<>((List<Integer>) kept[2]);
        led = ((int[]) kept[3]).clone();
        return now;
    }

    int undo() {
        if (undo.isEmpty()) return STATE;
        int[] c = undo.pop();
        redo.push(c);
        people.get(c[0]).v[c[1]] = c[2];
        return undo.size();
    }

    int redo() {
        if (redo.isEmpty()) return STATE;
        int[] c = redo.pop();
        undo.push(c);
        people.get(c[0]).v[c[1]] = c[3];
        return redo.size();
    }

    // ---- acts, shelves

    int body(int kind) {
        if (!within(kind, 0, 7)) return BAD;
        if (bodies.size() == 50) return FULL;
        bodies.add(Strokes.make(kind, bodies.size()));
        return bodies.size() - 1;
    }

    int act(int body, int act, int x) {
        trace = new ArrayList<>();
        if (!within(body, 0, bodies.size() - 1) || !within(act, 0, 3)) return 0;
        Strokes.Stroke b = bodies.get(body);
        b.trace = trace;
        switch (act) {
            case 0: return b.waits(x);
            case 1: return b.counts(x);
            case 2: return b.opens(x);
            default: return b.tells(x);
        }
    }

    int trace(int i) {
        return within(i, 0, Math.min(24, trace.size()) - 1) ? trace.get(i) : BAD;
    }

    int keep(int shelf, int body) {
        if (!within(shelf, 0, 5) || !within(body, -1, bodies.size() - 1)) return BAD;
        shelves[shelf] = body == -1 ? null : bodies.get(body);
        return 1;
    }

    int row(int shelf, int sort, int n) {
        if (!within(shelf, 0, 5) || !within(sort, 0, 4) || n > 60) return BAD;
        if (n < 0) return -14;
        switch (sort) {
            case 0: shelves[shelf] = new byte[n]; break;
            case 1: shelves[shelf] = new short[n]; break;
            case 2: shelves[shelf] = new int[n]; break;
            case 3: shelves[shelf] = new long[n]; break;
            default: shelves[shelf] = new boolean[n];
        }
        return 1;
    }

    int put(int shelf, int i, long v) {
        if (!within(shelf, 0, 5)) return BAD;
        Object o = shelves[shelf];
        if (o == null) return -11;
        if (!o.getClass().isArray()) return -12;
        if (i < 0 || i >= java.lang.reflect.Array.getLength(o)) return -13;
        if (o instanceof byte[] r) r[i] = (byte) v;
        if (o instanceof short[] r) r[i] = (short) v;
        if (o instanceof int[] r) r[i] = (int) v;
        if (o instanceof long[] r) r[i] = v;
        if (o instanceof boolean[] r) r[i] = v != 0;
        return 1;
    }

    long element(int shelf, int i) {
        if (!within(shelf, 0, 5) || shelves[shelf] == null || !shelves[shelf].getClass().isArray()) return Long.MIN_VALUE;
        Object o = shelves[shelf];
        if (i < 0 || i >= java.lang.reflect.Array.getLength(o)) return Long.MIN_VALUE;
        if (o instanceof boolean[] r) return r[i] ? 1 : 0;
        return java.lang.reflect.Array.getLong(o, i);
    }

    int shift(int shelf, int i, int other, int j, int n) {
        if (!within(shelf, 0, 5) || !within(other, 0, 5)) return BAD;
        try {
            System.arraycopy(shelves[shelf], i, shelves[other], j, n);
        } catch (NullPointerException e) {
            return -11;
        } catch (ArrayStoreException e) {
            return -12;
        } catch (IndexOutOfBoundsException e) {
            return -13;
        }
        return n;
    }

    int taken(int shelf, int k) {
        if (!within(shelf, 0, 5) || !within(k, 0, 7)) return BAD;
        if (shelves[shelf] == null) return -11;
        Class<?> wanted = Strokes.make(k, 0).getClass();
        if (!wanted.isInstance(shelves[shelf])) return -12;
        return ((Strokes.Stroke) shelves[shelf]).kind;
    }

    int count(int what) {
        switch (what) {
            case 0: return people.size();
            case 1: return waiting().size();
            case 2: return in.size();
            case 3: return tape.length();
            case 4: return undo.size();
            case 5: return bodies.size();
            case 6: return trace.size();
            default: return BAD;
        }
    }
}
