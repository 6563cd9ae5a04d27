/** Promises 35 to 37 and 44: body, act, trace, count. */
public final class ActsTest {
    private static final Due due = new Due("ActsTest");
    private static final int BAD = MiddleOne.BAD, FULL = MiddleOne.FULL;

    private static void body() {
        MiddleOne x = new MiddleOne();
        due.is("no kind below", x.body(-1), BAD);
        due.is("no kind above", x.body(8), BAD);
        for (int b = 0; b < 50; b++) due.is("body " + b, x.body(b % 8), b);
        due.is("one more", x.body(0), FULL);
        due.is("BAD is named ahead of FULL", x.body(8), BAD);
        due.is("fifty", x.count(5), 50);
    }

    /** One of each kind, its number being its kind; x is 5. */
    private static void act() {
        MiddleOne x = new MiddleOne();
        for (int kind = 0; kind < 8; kind++) x.body(kind);
        acts(x, 0, 5, 10, 5, 10 - 1);
        // TALL (1): waits 5 + 1 + 3; counts twice that; opens 5 ^ 1; tells 18 - (1 ^ 1).
        acts(x, 1, 9, 18, 4, 18);
        // SMALL (2): waits 7; counts -14; opens 7; tells -14 - (1 ^ 2).
        acts(x, 2, 7, -14, 7, -17);
        // MIDDLE (3): waits 8; counts -(9 * 2); opens (5 ^ 3) * 3; tells -18 - (1 ^ 3) * 3.
        acts(x, 3, 8, -18, 18, -24);
        // HEELED (4): waits 12; counts 24; opens (5 ^ 4) - (2 + 4 + 3); tells 24 - ((1 ^ 4) - 9).
        acts(x, 4, 12, 24, -8, 28);
        // GATE (5): waits 10; counts -(11 * 2); opens (5 ^ 5) * 3; tells (-22 - (1 ^ 5) * 3) ^ 5.
        acts(x, 5, 10, -22, 0, -34 ^ 5);
        // BOY (6): waits 22; counts 44; opens 5 ^ 6; tells 44 - (1 ^ 6).
        acts(x, 6, 22, 44, 3, 37);
        // HAT (7): waits 15; counts 30 + opens(2), which is (2 ^ 7) - 12; opens (5 ^ 7) - 12; tells 23 - (6 - 12) - 1.
        acts(x, 7, 15, 23, -10, 28);
        due.is("ints wrap", x.act(0, 1, Integer.MAX_VALUE), -2);
    }

    private static void acts(MiddleOne x, int body, int... want) {
        for (int act = 0; act < 4; act++) due.is("act(" + body + ", " + act + ", 5)", x.act(body, act, 5), want[act]);
    }

    private static void trace() {
        MiddleOne x = new MiddleOne();
        for (int kind = 0; kind < 8; kind++) x.body(kind);
        traced(x, 0, 0, 1);
        traced(x, 0, 1, 10, 1);
        traced(x, 0, 2, 11);
        traced(x, 0, 3, 2, 10, 1, 11);
        traced(x, 1, 1, 10, 20, 1);
        traced(x, 2, 3, 2, 30, 10, 1, 11);
        traced(x, 3, 3, 2, 41, 30, 10, 1, 40, 11);
        traced(x, 4, 2, 50, 11, 20, 1);
        traced(x, 5, 3, 60, 2, 41, 30, 10, 1, 40, 11);
        traced(x, 6, 1, 10, 70, 1);
        traced(x, 7, 1, 80, 10, 20, 1, 50, 11, 20, 1);
        traced(x, 7, 3, 81, 2, 80, 10, 20, 1, 50, 11, 20, 1, 50, 11, 20, 1);
        due.is("ahead of the trace", x.trace(-1), BAD);
        due.is("far behind it", x.trace(Integer.MAX_VALUE), BAD);
    }

    private static void traced(MiddleOne x, int body, int act, int... want) {
        String call = "act(" + body + ", " + act + ")";
        x.act(body, act, 5);
        due.is("all that ran in " + call, x.count(6), want.length);
        for (int i = 0; i < want.length; i++) due.is("trace(" + i + ") of " + call, x.trace(i), want[i]);
        due.is("behind the trace of " + call, x.trace(want.length), BAD);
    }

    private static void noSuchAct() {
        int[][] wrong = {{-1, 0}, {1, 0}, {0, -1}, {0, 4}, {Integer.MAX_VALUE, 0}, {0, Integer.MIN_VALUE}};
        for (int[] w : wrong) {
            MiddleOne x = new MiddleOne();
            x.body(7);
            x.act(0, 3, 1);
            due.is("act(" + w[0] + ", " + w[1] + ")", x.act(w[0], w[1], 5), 0);
            due.is("no trace then", x.trace(0), BAD);
            due.is("nothing ran", x.count(6), 0);
        }
    }

    private static void count() {
        MiddleOne x = new MiddleOne();
        x.person(150, 0);
        x.person(160, 0);
        x.person(170, 0);
        x.strike();
        x.feed('h');
        x.feed('h');
        x.feed('h');
        x.feed('h');
        for (int v = 1; v <= 5; v++) x.mend(0, 3, v);
        for (int b = 0; b < 6; b++) x.body(7);
        x.act(0, 3, 1);
        int[] want = {3, 2, 1, 4, 5, 6, 14};
        for (int what = 0; what < 7; what++) due.is("count(" + what + ")", x.count(what), want[what]);
        due.is("no what below", x.count(-1), BAD);
        due.is("no what above", x.count(7), BAD);
        x.undo();
        due.is("one less may be undone", x.count(4), 4);
        x.take(0);
        due.is("one waits", x.count(1), 1);
        due.is("away is not in", x.count(2), 1);
    }

    public static void main(String[] args) {
        body();
        act();
        trace();
        noSuchAct();
        count();
        due.ends();
    }
}
