/** Promises 38 to 43: keep, row, put, element, shift, taken. */
public final class ShelvesTest {
    private static final Due due = new Due("ShelvesTest");
    private static final int BAD = MiddleOne.BAD;
    private static final int BYTES = 0, SHORTS = 1, INTS = 2, LONGS = 3, BOOLEANS = 4;
    private static final long NONE = Long.MIN_VALUE;

    private static void keep() {
        MiddleOne x = new MiddleOne();
        due.is("no body yet", x.keep(0, 0), BAD);
        x.body(3);
        due.is("no shelf below", x.keep(-1, 0), BAD);
        due.is("no shelf above", x.keep(6, 0), BAD);
        due.is("no shelf, for nothing", x.keep(6, -1), BAD);
        due.is("no body below", x.keep(0, -2), BAD);
        due.is("no body above", x.keep(0, 1), BAD);
        due.is("nothing is there still", x.taken(0, 0), -11);
        due.is("a stroke", x.keep(0, 0), 1);
        due.is("it is there", x.taken(0, 0), 3);
        due.is("nothing", x.keep(0, -1), 1);
        due.is("nothing is there", x.taken(0, 0), -11);
        x.row(0, LONGS, 2);
        due.is("a stroke for a row", x.keep(0, 0), 1);
        due.is("no row any more", x.put(0, 0, 1), -12);
        x.row(0, LONGS, 2);
        due.is("nothing for a row", x.keep(0, -1), 1);
        due.is("no row", x.put(0, 0, 1), -11);
    }

    private static void row() {
        MiddleOne x = new MiddleOne();
        due.is("no shelf below", x.row(-1, 0, 1), BAD);
        due.is("no shelf above", x.row(6, 0, 1), BAD);
        due.is("no sort below", x.row(0, -1, 1), BAD);
        due.is("no sort above", x.row(0, 5, 1), BAD);
        due.is("too long", x.row(0, 0, 61), BAD);
        due.is("a size below 0", x.row(0, 0, -1), -14);
        due.is("far below 0", x.row(0, 0, Integer.MIN_VALUE), -14);
        due.is("BAD is named ahead of -14", x.row(0, 5, -1), BAD);
        due.is("BAD of the shelf too", x.row(6, 0, -1), BAD);
        due.is("nothing is there still", x.put(0, 0, 1), -11);
        due.is("an empty one", x.row(0, 0, 0), 1);
        due.is("it has no place", x.put(0, 0, 1), -13);
        due.is("the longest", x.row(5, 4, 60), 1);
        due.is("its last place", x.put(5, 59, 1), 1);
        due.is("behind it", x.put(5, 60, 1), -13);
        due.is("a new one", x.row(5, LONGS, 60), 1);
        for (int i = 0; i < 60; i++) due.is("0 at first", x.element(5, i), 0);
        x.put(5, 0, 9);
        due.is("what is refused changes nothing", x.row(5, LONGS, -1), -14);
        due.is("it is as it was", x.element(5, 0), 9);
        x.body(0);
        x.keep(4, 0);
        due.is("a row for a stroke", x.row(4, INTS, 3), 1);
        due.is("it is a row", x.put(4, 2, 1), 1);
    }

    private static void put() {
        MiddleOne x = new MiddleOne();
        due.is("no shelf below", x.put(-1, 0, 1), BAD);
        due.is("no shelf above", x.put(6, 0, 1), BAD);
        due.is("nothing", x.put(0, 0, 1), -11);
        due.is("-11 is named ahead of -13", x.put(0, -1, 1), -11);
        x.body(0);
        x.keep(0, 0);
        due.is("a stroke", x.put(0, 0, 1), -12);
        due.is("-12 is named ahead of -13", x.put(0, -1, 1), -12);
        x.row(0, LONGS, 3);
        due.is("ahead", x.put(0, -1, 1), -13);
        due.is("behind", x.put(0, 3, 1), -13);
        due.is("far behind", x.put(0, Integer.MAX_VALUE, 1), -13);
        due.is("far ahead", x.put(0, Integer.MIN_VALUE, 1), -13);
    }

    private static void element() {
        MiddleOne x = new MiddleOne();
        long v = 0x123456789ABCDEF0L;
        long[][] want = {
            {(byte) v, (byte) 128, -1, 0, 0}, {(short) v, 128, -1, 0, (short) 0x10000},
            {(int) v, 128, -1, 0, 0x10000}, {v, 128, -1, 0, 0x10000}, {1, 1, 1, 0, 1}};
        long[] put = {v, 128, -1, 0, 0x10000};
        for (int sort = BYTES; sort <= BOOLEANS; sort++) {
            Due.row(x, sort, sort, put);
            for (int i = 0; i < put.length; i++) due.is("sort " + sort + ", element " + i, x.element(sort, i), want[sort][i]);
        }
        Due.row(x, BOOLEANS, BOOLEANS, 1L << 40);
        due.is("a boolean of a high bit", x.element(BOOLEANS, 0), 1);
        Due.row(x, INTS, INTS, 1L << 31);
        due.is("an int's sign", x.element(INTS, 0), Integer.MIN_VALUE);
        Due.row(x, LONGS, LONGS, Long.MIN_VALUE, Long.MAX_VALUE);
        due.is("the greatest long", x.element(LONGS, 1), Long.MAX_VALUE);
        due.is("no shelf below", x.element(-1, 0), NONE);
        due.is("no shelf above", x.element(6, 0), NONE);
        due.is("nothing", x.element(5, 0), NONE);
        due.is("ahead", x.element(LONGS, -1), NONE);
        due.is("behind", x.element(LONGS, 2), NONE);
        x.body(0);
        x.keep(5, 0);
        due.is("a stroke", x.element(5, 0), NONE);
    }

    private static void holds(MiddleOne x, String when, int shelf, long... want) {
        for (int i = 0; i < want.length; i++) due.is(when + ", element " + i, x.element(shelf, i), want[i]);
    }

    private static void shift() {
        MiddleOne x = new MiddleOne();
        Due.row(x, 0, INTS, 1, 2, 3, 4, 5);
        Due.row(x, 1, INTS, 9, 9, 9);
        due.is("to another", x.shift(0, 3, 1, 1, 2), 2);
        holds(x, "to another", 1, 9, 4, 5);
        holds(x, "from there", 0, 1, 2, 3, 4, 5);
        due.is("to itself, behind", x.shift(0, 0, 0, 1, 4), 4);
        holds(x, "to itself, behind", 0, 1, 1, 2, 3, 4);
        due.is("to itself, ahead", x.shift(0, 2, 0, 0, 3), 3);
        holds(x, "to itself, ahead", 0, 2, 3, 4, 3, 4);
        due.is("none", x.shift(0, 5, 1, 3, 0), 0);
        int most = Integer.MAX_VALUE, least = Integer.MIN_VALUE;
        int[][] wrong = {{0, 0, 4}, {-1, 0, 1}, {0, -1, 1}, {0, 0, -1}, {6, 0, 0}, {0, 4, 0}, {4, 0, 2}, {0, 2, 2},
            {most, 0, 1}, {0, most, 1}, {1, 1, most}, {least, 0, 1}, {0, least, 1}, {0, 0, least}, {most, most, most}};
        for (int[] w : wrong) {
            due.is("from " + w[0] + " to " + w[1] + ", " + w[2], x.shift(0, w[0], 1, w[1], w[2]), -13);
        }
        holds(x, "nothing was shifted", 1, 9, 4, 5);
        holds(x, "nor lost", 0, 2, 3, 4, 3, 4);
    }

    private static void shiftRefused() {
        MiddleOne x = new MiddleOne();
        x.body(0);
        x.row(0, INTS, 2);
        x.row(1, SHORTS, 2);
        x.keep(2, 0);
        x.row(4, INTS, 0);
        due.is("no shelf below", x.shift(-1, 0, 0, 0, 1), BAD);
        due.is("no shelf above", x.shift(6, 0, 0, 0, 1), BAD);
        due.is("no other below", x.shift(0, 0, -1, 0, 1), BAD);
        due.is("no other above", x.shift(0, 0, 6, 0, 1), BAD);
        due.is("BAD is named ahead of -11", x.shift(3, 0, 6, 0, 1), BAD);
        due.is("nothing here", x.shift(3, 0, 0, 0, 1), -11);
        due.is("nothing there", x.shift(0, 0, 3, 0, 1), -11);
        due.is("-11 is named ahead of -12", x.shift(2, 0, 3, 0, 1), -11);
        due.is("a stroke here", x.shift(2, 0, 0, 0, 1), -12);
        due.is("a stroke there", x.shift(0, 0, 2, 0, 1), -12);
        due.is("strokes", x.shift(2, 0, 2, 0, 0), -12);
        due.is("unlike sorts", x.shift(0, 0, 1, 0, 1), -12);
        due.is("-12 is named ahead of -13", x.shift(0, 9, 1, 9, 9), -12);
        due.is("an empty row", x.shift(4, 0, 0, 0, 1), -13);
        due.is("none of an empty row", x.shift(4, 0, 0, 2, 0), 0);
    }

    private static void taken() {
        boolean[][] under = new boolean[8][8];
        int[][] lines = {{0}, {1, 0}, {2, 0}, {3, 2, 0}, {4, 1, 0}, {5, 3, 2, 0}, {6, 0}, {7, 4, 1, 0}};
        for (int kind = 0; kind < 8; kind++) for (int above : lines[kind]) under[kind][above] = true;
        MiddleOne x = new MiddleOne();
        for (int b = 0; b < 8; b++) x.body(7 - b);
        for (int kind = 0; kind < 8; kind++) {
            x.keep(0, 7 - kind);
            for (int k = 0; k < 8; k++) due.is("kind " + kind + " taken for " + k, x.taken(0, k), under[kind][k] ? kind : -12);
        }
        due.is("no shelf below", x.taken(-1, 0), BAD);
        due.is("no shelf above", x.taken(6, 0), BAD);
        due.is("no kind below", x.taken(0, -1), BAD);
        due.is("no kind above", x.taken(0, 8), BAD);
        due.is("BAD is named ahead of -11", x.taken(1, 8), BAD);
        due.is("nothing", x.taken(1, 0), -11);
        x.row(1, BYTES, 1);
        due.is("a row", x.taken(1, 0), -12);
    }

    public static void main(String[] args) {
        keep();
        row();
        put();
        element();
        shift();
        shiftRefused();
        taken();
        due.ends();
    }
}
