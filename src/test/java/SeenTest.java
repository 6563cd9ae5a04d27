/** Promises 23 to 26: judge, with, heeled, drawn. */
public final class SeenTest {
    private static final Due due = new Due("SeenTest");
    private static final int BAD = MiddleOne.BAD, NOT = MiddleOne.NOT, STATE = MiddleOne.STATE;
    private static final int BYTES = 0, SHORTS = 1;

    private static void refusals() {
        MiddleOne x = Due.crowd(150, 160, 170);
        for (int shelf : new int[] {-1, 6, Integer.MAX_VALUE, Integer.MIN_VALUE}) {
            due.is("judge: no shelf " + shelf, x.judge(shelf), BAD);
            due.is("with: no shelf " + shelf, x.with(shelf, 0), BAD);
            due.is("heeled: no shelf " + shelf, x.heeled(shelf), BAD);
        }
        due.is("judge: nothing there", x.judge(5), -11);
        due.is("with: nothing there", x.with(5, 0), -11);
        due.is("heeled: nothing there", x.heeled(5), -11);
        due.is("with: BAD is named ahead of -11", x.with(5, 2), BAD);
        due.is("with: no what below", x.with(5, -1), BAD);
        x.row(5, SHORTS, 0);
        due.is("judge: shorts", x.judge(5), -12);
        due.is("with: shorts", x.with(5, 0), -12);
        due.is("heeled: shorts", x.heeled(5), -12);
        x.row(5, 4, 0);
        due.is("judge: booleans", x.judge(5), -12);
        x.body(0);
        x.keep(5, 0);
        due.is("judge: a stroke", x.judge(5), -12);
        due.is("with: a stroke", x.with(5, 1), -12);
        due.is("heeled: a stroke", x.heeled(5), -12);
    }

    private static void moreThanEight() {
        MiddleOne x = new MiddleOne();
        for (int p = 0; p < 8; p++) x.person(150, p);
        Due.row(x, 0, BYTES, 0, 1, 2, 3, 4, 5, 6, 7, -1);
        due.is("with: eight", x.with(0, 0), 1);
        due.is("with: eight, who", x.with(0, 1), 255);
        due.is("heeled: eight", x.heeled(0), 0);
        x.person(150, 9);
        due.is("judge: nine", x.judge(0), NOT);
        due.is("with: nine", x.with(0, 0), STATE);
        due.is("heeled: nine", x.heeled(0), STATE);
        due.is("with: -11 is named ahead of STATE", x.with(1, 0), -11);
        due.is("heeled: -11 is named ahead of STATE", x.heeled(1), -11);
        x.row(1, SHORTS, 1);
        due.is("with: -12 is named ahead of STATE", x.with(1, 0), -12);
        due.is("heeled: -12 is named ahead of STATE", x.heeled(1), -12);
        due.is("with: BAD is named ahead of STATE", x.with(0, 2), BAD);
    }

    private static void judge() {
        MiddleOne x = Due.crowd(150, 160, 170);
        x.mend(2, 2, 3);
        // 1 at 0; nobody at 1 and 2; 0 at 3; nobody from then on.
        x.row(0, BYTES, 0);
        due.is("nothing told", x.judge(0), NOT);
        Due.row(x, 0, BYTES, 1, -1, -1, 0, -1);
        due.is("all so", x.judge(0), NOT);
        Due.row(x, 0, BYTES, 1, -1, -1, 0, 2);
        due.is("the last is not", x.judge(0), 4);
        Due.row(x, 0, BYTES, 1, -1, 0, 0, 2);
        due.is("the first of two that are not", x.judge(0), 2);
        Due.row(x, 0, BYTES, 1, -2);
        due.is("-2 is nobody's number, nor nobody", x.judge(0), 1);
        Due.row(x, 0, BYTES, 257);
        due.is("a byte keeps its lowest bits", x.judge(0), NOT);
        x.row(0, BYTES, 60);
        for (int s = 0; s < 60; s++) x.put(0, s, s == 0 ? 1 : s == 3 ? 0 : -1);
        due.is("sixty strokes", x.judge(0), NOT);
        x.put(0, 59, 2);
        due.is("the sixtieth", x.judge(0), 59);
        x.strike();
        due.is("of a day in thought", x.judge(0), 59);
    }

    private static void with() {
        MiddleOne x = Due.crowd(150, 160, 170);
        Due.row(x, 0, BYTES, 1);
        // {1} and {0, 1, 2}.
        due.is("two sets", x.with(0, 0), 2);
        due.is("1 in both", x.with(0, 1), 2);
        Due.row(x, 0, BYTES, -1);
        // Nobody, and the three pairs.
        due.is("four sets", x.with(0, 0), 4);
        due.is("none in all", x.with(0, 1), 0);
        Due.row(x, 0, BYTES, 1, 0);
        due.is("no set", x.with(0, 0), 0);
        due.is("no set, who", x.with(0, 1), NOT);
        x.row(0, BYTES, 0);
        due.is("nothing seen: all sets", x.with(0, 0), 8);
        due.is("nothing seen: none in all", x.with(0, 1), 0);
    }

    private static void heeled() {
        MiddleOne x = Due.crowd(150, 155, 165);
        Due.row(x, 0, BYTES, 1);
        due.is("nobody", x.heeled(0), 0);
        Due.row(x, 0, BYTES, 0);
        due.is("0 wore them: 160", x.heeled(0), 1);
        Due.row(x, 0, BYTES, 2);
        // 165 is the middle one of 160, 165, 165 (1 with 10 more is the smaller of like ones).
        due.is("2 never is", x.heeled(0), NOT);
        x.mend(0, 3, 15);
        // 0 is 165 now, with more 170: held at 20.
        due.is("held 20", x.heeled(0), 1);
        Due.row(x, 0, BYTES, 0);
        due.is("0 as it is: the smaller of like ones", x.heeled(0), 0);
        due.is("heels told stay", x.of(0, 3), 15);
        MiddleOne y = Due.crowd(150, 161, 165);
        Due.row(y, 0, BYTES, 2);
        due.is("1 wore them: the least set", y.heeled(0), 2);
        y.mend(1, 3, 20);
        Due.row(y, 0, BYTES, 2);
        due.is("1 as it is", y.heeled(0), 0);
        // Found by trying: of all sixteen sets the last alone.
        MiddleOne z = new MiddleOne();
        int[][] people = {{170, 0, 1}, {167, 0, 16}, {159, 1, 1}, {169, 0, 5}};
        for (int p = 0; p < 4; p++) {
            z.person(people[p][0], people[p][1]);
            z.mend(p, 3, people[p][2]);
        }
        Due.law(z, "h*e%31");
        Due.row(z, 0, BYTES, 1, 2);
        due.is("all wore them", z.heeled(0), 15);
    }

    /** The draws worked out here; alone it is let in as it comes. */
    private static void drawn() {
        MiddleOne x = new MiddleOne();
        due.is("nobody", x.drawn(7, 20, -1), 0);
        x.person(150, 99);
        due.is("alone each day", x.drawn(7, 20, 0), 20);
        due.is("alone each day, all", x.drawn(7, 20, -1), 20);
        due.is("one day", x.drawn(7, 1, 0), 1);
        due.is("coming told stays", x.of(0, 1), 99);
        due.is("no day", x.drawn(7, 0, 0), BAD);
        due.is("too many days", x.drawn(7, 21, 0), BAD);
        due.is("nobody there", x.drawn(7, 1, 1), BAD);
        due.is("nobody ahead", x.drawn(7, 1, -2), BAD);
        x.person(160, 99);
        for (int seed : new int[] {0, 1, -1, 77, 123456789, Integer.MIN_VALUE}) {
            int apart = 0, z = seed;
            for (int d = 0; d < 20; d++) {
                z = z * 1103515245 + 12345;
                int a = (z >>> 8) % 60;
                z = z * 1103515245 + 12345;
                int b = (z >>> 8) % 60;
                // Whoever is alone at first is let in, then the other; together they are even to the end.
                if (a != b) apart++;
            }
            due.is("two days apart, seed " + seed, x.drawn(seed, 20, 0), apart);
            due.is("two days apart, all, seed " + seed, x.drawn(seed, 20, -1), 2 * apart);
        }
    }

    public static void main(String[] args) {
        refusals();
        moreThanEight();
        judge();
        with();
        heeled();
        drawn();
        due.ends();
    }
}
