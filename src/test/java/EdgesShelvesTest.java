import java.util.List;

/** Part 5 of the document, sentence by sentence: bodies and their acts, THE TRACE, shelves and rows. */
public final class EdgesShelvesTest {
    private static final Due due = new Due("EdgesShelvesTest");
    private static final int BAD = -1, FULL = -3, NOTHING = -11, KIND = -12, PLACE = -13, SIZE = -14;
    private static final int BYTES = 0, SHORTS = 1, INTS = 2, LONGS = 3, BOOLEANS = 4;
    private static final int MOST = Integer.MAX_VALUE, LEAST = Integer.MIN_VALUE;

    /** "BODIES 0 .. 49, of KINDS: 0 .. 7": the last number is one as any other, the next is none. */
    private static void bodies() {
        for (int kind = 0; kind < 8; kind++) {
            MiddleOne x = new MiddleOne();
            due.is("none yet: act", x.act(0, 0, 1), 0);
            due.is("none yet: keep", x.keep(0, 0), BAD);
            for (int b = 0; b < 49; b++) x.body(0);
            due.is("one too few: keep", x.keep(0, 49), BAD);
            due.is("the last one", x.body(kind), 49);
            due.is("one too many", x.body(kind), FULL);
            due.is("fifty", x.count(5), 50);
            due.is("it is kept", x.keep(5, 49), 1);
            due.is("it is of its kind", x.taken(5, 0), kind);
            due.is("the first one is of another", x.keep(0, 0), 1);
            due.is("of the first kind", x.taken(0, 0), 0);
            due.is("the next is none", x.keep(0, 50), BAD);
            due.is("nor does it act", x.act(50, 0, 1), 0);
            due.is("no trace then", x.count(6), 0);
        }
        due.is("a kind below 0", new MiddleOne().body(-1), BAD);
        due.is("a kind above 7", new MiddleOne().body(8), BAD);
    }

    /** "ACTS with x (an int that wraps)": every kind, every act, against classes of Java, in which the language finds the bodies. */
    private static void acts() {
        int[] some = {0, 1, -1, 2, 5, 49, 100, -100, MOST, LEAST, MOST - 1, LEAST + 1, 1 << 30, -(1 << 30), 0x55555555, 0xAAAAAAAA};
        for (int number : new int[] {0, 1, 7, 24, 49}) {
            for (int kind = 0; kind < 8; kind++) {
                MiddleOne x = new MiddleOne();
                for (int b = 0; b < number; b++) x.body((kind + b + 1) % 8);
                due.is("number", x.body(kind), number);
                for (int v : some) for (int act = 0; act < 4; act++) acts(x, kind, number, act, v);
            }
        }
    }

    private static void acts(MiddleOne x, int kind, int number, int act, int v) {
        Strokes.Stroke stroke = Strokes.make(kind, number);
        int want = act == 0 ? stroke.waits(v) : act == 1 ? stroke.counts(v) : act == 2 ? stroke.opens(v) : stroke.tells(v);
        String call = "kind " + kind + ": act(" + number + ", " + act + ", " + v + ")";
        due.is(call, x.act(number, act, v), want);
        List<Integer> trace = stroke.trace;
        if (v != MOST) return;
        due.is(call + ": all that ran", x.count(6), trace.size());
        due.is(call + ": the first", x.trace(0), trace.get(0));
        due.is(call + ": the last", x.trace(trace.size() - 1), trace.get(trace.size() - 1));
        due.is(call + ": behind the last", x.trace(trace.size()), BAD);
    }

    /** "0, and no TRACE then: no such STROKE, ACT." */
    private static void noTrace() {
        int[][] none = {{-1, 0}, {1, 0}, {50, 3}, {MOST, 0}, {LEAST, 3}, {0, -1}, {0, 4}, {0, MOST}, {0, LEAST}, {1, 4}};
        for (int[] w : none) {
            MiddleOne x = new MiddleOne();
            due.is("no act yet", x.trace(0), BAD);
            due.is("none ran yet", x.count(6), 0);
            x.body(7);
            due.is("an act", x.act(0, 3, 0) == 0 ? 1 : 0, 0);
            due.is("the longest of all", x.count(6), 14);
            due.is("its last", x.trace(13), 1);
            due.is("none behind", x.trace(14), BAD);
            due.is("nor at 23", x.trace(23), BAD);
            due.is("nor at 24", x.trace(24), BAD);
            due.is("none such", x.act(w[0], w[1], 9), 0);
            due.is("no trace then", x.trace(0), BAD);
            due.is("nothing ran", x.count(6), 0);
            due.is("a shorter one", x.act(0, 0, 0), 3);
            due.is("two ran", x.count(6), 2);
            due.is("its last one", x.trace(1), 1);
            due.is("nothing of the longer one", x.trace(2), BAD);
        }
    }

    /** "SHELVES 0 .. 5 each hold nothing (at first), a STROKE, or a ROW": each by itself. */
    private static void shelves() {
        MiddleOne x = new MiddleOne();
        x.body(5);
        for (int s = 0; s < 6; s++) {
            due.is("nothing at first on " + s, x.taken(s, 0), NOTHING);
            due.is("nor a row on " + s, x.put(s, 0, 1), NOTHING);
        }
        for (int s : new int[] {-1, 6, MOST, LEAST}) {
            due.is("no shelf: keep", x.keep(s, 0), BAD);
            due.is("no shelf: row", x.row(s, 0, 1), BAD);
            due.is("no shelf: put", x.put(s, 0, 1), BAD);
            due.is("no shelf: element", x.element(s, 0), Long.MIN_VALUE);
            due.is("no shelf: taken", x.taken(s, 0), BAD);
        }
        for (int s = 0; s < 6; s++) {
            due.is("a row on " + s, x.row(s, LONGS, 60), 1);
            for (int i = 0; i < 60; i += 59) x.put(s, i, 100 * s + i);
        }
        for (int s = 0; s < 6; s++) {
            due.is("its first", x.element(s, 0), 100 * s);
            due.is("its last", x.element(s, 59), 100 * s + 59);
        }
        due.is("a stroke on 3", x.keep(3, 0), 1);
        due.is("a stroke, no row", x.element(3, 0), Long.MIN_VALUE);
        due.is("nothing on 4", x.keep(4, -1), 1);
        due.is("nothing, no row", x.element(4, 0), Long.MIN_VALUE);
        due.is("2 as it was", x.element(2, 59), 259);
        due.is("5 as it was", x.element(5, 0), 500);
        due.is("a row again", x.row(3, LONGS, 60), 1);
        due.is("0 at first", x.element(3, 59), 0);
        due.is("a shorter row", x.row(5, LONGS, 1), 1);
        due.is("it has one", x.put(5, 0, 7), 1);
        due.is("no more", x.put(5, 1, 7), PLACE);
        due.is("a longer one", x.row(5, LONGS, 60), 1);
        for (int i = 0; i < 60; i++) due.is("all 0, also where there was one", x.element(5, i), 0);
    }

    /** "of 0 .. 60 elements, 0 at first (false)": each sort. */
    private static void sizes() {
        for (int sort = BYTES; sort <= BOOLEANS; sort++) {
            for (int n : new int[] {0, 1, 59, 60}) {
                MiddleOne x = new MiddleOne();
                due.is("sort " + sort + " of " + n, x.row(0, sort, n), 1);
                for (int i = 0; i < n; i++) due.is("0 at first", x.element(0, i), 0);
                due.is("behind its end", x.put(0, n, 1), PLACE);
                due.is("element behind its end", x.element(0, n), Long.MIN_VALUE);
                due.is("ahead of it", x.put(0, -1, 1), PLACE);
                due.is("element ahead of it", x.element(0, -1), Long.MIN_VALUE);
                due.is("its last", x.put(0, n - 1, 1), n == 0 ? PLACE : 1);
                due.is("its last is so", x.element(0, n - 1), n == 0 ? Long.MIN_VALUE : 1);
                if (n > 1) due.is("the one ahead of it is not", x.element(0, n - 2), 0);
            }
            MiddleOne x = new MiddleOne();
            due.is("61", x.row(0, sort, 61), BAD);
            due.is("below 0", x.row(0, sort, -1), SIZE);
            due.is("far above", x.row(0, sort, MOST), BAD);
            due.is("far below", x.row(0, sort, LEAST), SIZE);
            due.is("nothing is there", x.put(0, 0, 1), NOTHING);
        }
        MiddleOne x = new MiddleOne();
        for (int sort : new int[] {-1, 5, MOST, LEAST}) {
            due.is("no sort " + sort, x.row(0, sort, 1), BAD);
            due.is("no sort ahead of no size", x.row(0, sort, -1), BAD);
        }
    }

    /** "what is put in keeps its lowest bits (a boolean: whether it is not 0; 1 or 0)". */
    private static void lowestBits() {
        for (int bit = 0; bit < 64; bit++) lowestBits(bit);
        MiddleOne x = new MiddleOne();
        Due.row(x, 5, BYTES, 127, 128, 255, 256, -128, -129);
        long[] bytes = {127, -128, -1, 0, -128, 127};
        for (int i = 0; i < bytes.length; i++) due.is("byte " + i, x.element(5, i), bytes[i]);
        Due.row(x, 5, SHORTS, 32767, 32768, 65535, 65536, -32768, -32769);
        long[] shorts = {32767, -32768, -1, 0, -32768, 32767};
        for (int i = 0; i < shorts.length; i++) due.is("short " + i, x.element(5, i), shorts[i]);
        Due.row(x, 5, INTS, MOST, 1L + MOST, (1L << 32) - 1, 1L << 32, LEAST, LEAST - 1L);
        long[] ints = {MOST, LEAST, -1, 0, LEAST, MOST};
        for (int i = 0; i < ints.length; i++) due.is("int " + i, x.element(5, i), ints[i]);
        Due.row(x, 5, LONGS, Long.MIN_VALUE, Long.MAX_VALUE);
        due.is("the least long", x.element(5, 0), Long.MIN_VALUE);
        due.is("the greatest long", x.element(5, 1), Long.MAX_VALUE);
    }

    /** A power of two, one less and one more, above and below 0. */
    private static void lowestBits(int bit) {
        MiddleOne x = new MiddleOne();
        for (int sort = BYTES; sort <= BOOLEANS; sort++) x.row(sort, sort, 1);
        for (int more = -1; more <= 1; more++) {
            for (int sign = -1; sign <= 1; sign += 2) {
                long v = sign * (1L << bit) + more;
                for (int sort = BYTES; sort <= BOOLEANS; sort++) x.put(sort, 0, v);
                due.is("a byte of " + v, x.element(BYTES, 0), v << 56 >> 56);
                due.is("a short of " + v, x.element(SHORTS, 0), v << 48 >> 48);
                due.is("an int of " + v, x.element(INTS, 0), v << 32 >> 32);
                due.is("a long of " + v, x.element(LONGS, 0), v);
                due.is("a boolean of " + v, x.element(BOOLEANS, 0), v == 0 ? 0 : 1);
            }
        }
    }

    /** "n elements of a ROW from i on come to another one (or the same) from j on, as they all were before": all spans of small rows. */
    private static void shift() {
        for (int size = 0; size <= 4; size++) {
            for (int i = -1; i <= size + 1; i++) {
                for (int j = -1; j <= size + 1; j++) {
                    for (int n = -1; n <= size + 1; n++) shift(size, i, j, n);
                }
            }
        }
        for (int sort = BYTES; sort <= BOOLEANS; sort++) {
            MiddleOne x = new MiddleOne();
            x.row(0, sort, 60);
            x.row(1, sort, 60);
            for (int i = 0; i < 60; i++) x.put(0, i, i % 2);
            due.is("all sixty", x.shift(0, 0, 1, 0, 60), 60);
            for (int i = 0; i < 60; i++) due.is("as there", x.element(1, i), i % 2);
            due.is("sixty-one", x.shift(0, 0, 1, 0, 61), PLACE);
            due.is("all but one, by one", x.shift(0, 0, 0, 1, 59), 59);
            for (int i = 1; i < 60; i++) due.is("as they all were", x.element(0, i), (i + 1) % 2);
            due.is("none at the end", x.shift(0, 60, 1, 60, 0), 0);
            due.is("none behind it", x.shift(0, 61, 1, 60, 0), PLACE);
            due.is("none behind it there", x.shift(0, 60, 1, 61, 0), PLACE);
            for (int other = BYTES; other <= BOOLEANS; other++) {
                x.row(2, other, 60);
                due.is("sort " + sort + " to " + other, x.shift(0, 0, 2, 0, 60), other == sort ? 60 : KIND);
            }
        }
    }

    /** "to another one (or the same)": from each shelf to each. */
    private static void shiftFromEachToEach() {
        for (int shelf = 0; shelf < 6; shelf++) {
            for (int other = 0; other < 6; other++) {
                MiddleOne x = new MiddleOne();
                for (int s = 0; s < 6; s++) Due.row(x, s, SHORTS, 100 * s, 100 * s + 1, 100 * s + 2, 100 * s + 3);
                due.is("two from " + shelf + " to " + other, x.shift(shelf, 2, other, 1, 2), 2);
                for (int s = 0; s < 6; s++) {
                    for (int i = 0; i < 4; i++) {
                        boolean came = s == other && (i == 1 || i == 2);
                        due.is("from " + shelf + " to " + other + ": " + i + " of " + s, x.element(s, i), came ? 100 * shelf + i + 1 : 100 * s + i);
                    }
                }
            }
        }
    }

    /** To another row and to itself. */
    private static void shift(int size, int i, int j, int n) {
        String span = "of " + size + " from " + i + " to " + j + ", " + n;
        boolean fits = i >= 0 && j >= 0 && n >= 0 && i + n <= size && j + n <= size;
        MiddleOne x = new MiddleOne();
        x.row(0, INTS, size);
        x.row(1, INTS, size);
        x.row(2, INTS, size);
        for (int at = 0; at < size; at++) {
            x.put(0, at, 10 + at);
            x.put(1, at, 20 + at);
            x.put(2, at, 10 + at);
        }
        due.is(span, x.shift(0, i, 1, j, n), fits ? n : PLACE);
        due.is(span + ", to itself", x.shift(2, i, 2, j, n), fits ? n : PLACE);
        for (int at = 0; at < size; at++) {
            boolean came = fits && at >= j && at < j + n;
            due.is(span + ": from there", x.element(0, at), 10 + at);
            due.is(span + ": there", x.element(1, at), came ? 10 + at - j + i : 20 + at);
            due.is(span + ": itself", x.element(2, at), came ? 10 + at - j + i : 10 + at);
        }
    }

    /** "taken for a STROKE of KIND k (0 .. 7), or under it: its KIND": who stands under whom, by classes of Java. */
    private static void taken() {
        MiddleOne x = new MiddleOne();
        for (int kind = 0; kind < 8; kind++) {
            x.body(kind);
            x.keep(1, kind);
            for (int k = 0; k < 8; k++) {
                boolean so = Strokes.make(k, 0).getClass().isInstance(Strokes.make(kind, 0));
                due.is("kind " + kind + " for " + k, x.taken(1, k), so ? kind : KIND);
                due.is("nothing for " + k, x.taken(0, k), NOTHING);
            }
        }
        for (int sort = BYTES; sort <= BOOLEANS; sort++) {
            x.row(0, sort, 0);
            for (int k = 0; k < 8; k++) due.is("a row for " + k, x.taken(0, k), KIND);
        }
        for (int k : new int[] {-1, 8, MOST, LEAST}) {
            due.is("no kind: a stroke", x.taken(1, k), BAD);
            due.is("no kind: a row", x.taken(0, k), BAD);
            due.is("no kind: nothing", x.taken(2, k), BAD);
        }
    }

    /** "How many": empty and full. */
    private static void count() {
        MiddleOne x = new MiddleOne();
        for (int what = 0; what <= 6; what++) due.is("at first: count(" + what + ")", x.count(what), 0);
        for (int p = 0; p < 12; p++) x.person(150, 0);
        for (int i = 0; i < 120; i++) x.feed('h');
        for (int v = 0; v < 41; v++) x.mend(0, 4, 50 + v);
        for (int b = 0; b < 50; b++) x.body(7);
        x.mend(11, 2, 1);
        x.act(49, 3, 1);
        int[] full = {12, 12, 0, 120, 40, 50, 14};
        for (int what = 0; what <= 6; what++) due.is("full: count(" + what + ")", x.count(what), full[what]);
        due.is("even ones: nobody", x.strike(), -2);
        due.is("one has gone", x.count(1), 11);
        due.is("the middle one of eleven", x.strike(), 5);
        due.is("ten wait", x.count(1), 10);
        due.is("one is in", x.count(2), 1);
        due.is("one is taken away", x.take(0), 2);
        due.is("nine wait", x.count(1), 9);
        due.is("one is in still", x.count(2), 1);
        x.dawn();
        due.is("twelve wait again", x.count(1), 12);
        due.is("nobody is in", x.count(2), 0);
        for (int what : new int[] {-1, 7, MOST, LEAST}) due.is("no what " + what, x.count(what), BAD);
    }

    public static void main(String[] args) {
        bodies();
        acts();
        noTrace();
        shelves();
        sizes();
        lowestBits();
        shift();
        shiftFromEachToEach();
        taken();
        count();
        due.ends();
    }
}
