/** Parts 3 and 4 (its days by draws) of the document, sentence by sentence: gates, rules, days seen, days drawn. */
public final class EdgesGatesTest {
    private static final Due due = new Due("EdgesGatesTest");
    private static final int BAD = -1, NOT = -2, STATE = -5;
    private static final int BYTES = 0;
    private static final int COMES = 1, STAYS = 2, HEELS = 3;

    private static MiddleOne many(int n) {
        MiddleOne x = new MiddleOne();
        for (int p = 0; p < n; p++) x.person(150, 0);
        return x;
    }

    /** "people of a set (bits)": from nobody to all. */
    private static void sets() {
        for (int n = 0; n <= 12; n++) {
            MiddleOne x = many(n);
            due.is("nobody of " + n, x.gates(0, -1), n % 2);
            due.is("all of " + n, x.gates((1 << n) - 1, -1), n);
            for (int set : new int[] {1 << n, -1, -(1 << n), Integer.MAX_VALUE, Integer.MIN_VALUE, (1 << n) | 1}) {
                due.is("set " + set + " of " + n, x.gates(set, -1), BAD);
            }
        }
    }

    /** "each stroke the tallest one who WAITS there is let in (of like ones the greater number)": even ones, too. */
    private static void secondGate() {
        MiddleOne x = many(12);
        for (int p = 0; p < 12; p++) due.is("of like ones, " + p, x.gates(4095, p), 11 - p);
        x.mend(3, HEELS, 1);
        due.is("the tallest first", x.gates(4095, 3), 0);
        due.is("then 11", x.gates(4095, 11), 1);
        // "by 100 strokes", at each gate.
        MiddleOne last = new MiddleOne();
        last.person(150, 99);
        due.is("at the first gate at 99", last.gates(0, 0), 99);
        due.is("at the second gate at 99", last.gates(1, 0), 99);
        due.is("in at the first", last.gates(0, -1), 1);
        due.is("in at the second", last.gates(1, -1), 1);
        last.person(140, 99);
        due.is("two at 99, the taller", last.gates(3, 0), 99);
        due.is("two at 99, the other", last.gates(3, 1), NOT);
        due.is("two at 99, how many", last.gates(3, -1), 1);
        due.is("one at each gate", last.gates(2, -1), 2);
        due.is("even at the first gate", last.gates(0, -1), 0);
        // Whoever has gone, or is not there yet, does not wait at the second gate either.
        MiddleOne gone = Due.crowd(150, 160);
        gone.mend(0, STAYS, 1);
        gone.mend(1, COMES, 3);
        due.is("alone as it comes", gone.gates(3, 1), 3);
        gone.mend(1, COMES, 0);
        due.is("gone when the tallest is in", gone.gates(3, 0), NOT);
    }

    /** "at which gate (0, 1) one should stand .. to be let in earlier (of like ones 0)". */
    private static void where() {
        MiddleOne x = Due.crowd(150, 160, 170);
        due.is("as early at both", x.where(1), 0);
        due.is("even at the first", Due.crowd(150, 160).where(0), 1);
        x.mend(1, STAYS, 1);
        x.mend(2, STAYS, 1);
        due.is("at 1 at the first, at 0 at the second", x.where(0), 1);
        x.mend(0, COMES, 1);
        due.is("at 1 at both", x.where(0), 0);
        x.mend(0, COMES, 99);
        due.is("at 99 at both", x.where(0), 0);
        x.person(150, 99);
        due.is("even at 99 at the first", x.where(0), 1);
        due.is("alone", Due.crowd(150).where(0), 0);
        // Of 2, 4, .. like ones, who are even for ever, each is let in at once at the second gate; of odd ones all but the middle one.
        for (int n = 2; n <= 12; n++) {
            MiddleOne like = many(n);
            for (int p = 0; p < n; p++) due.is(p + " of " + n, like.where(p), n % 2 == 1 && p == n / 2 ? 0 : 1);
        }
    }

    /** "(8 PEOPLE at most, else STATE; of like ones the least bits)". */
    private static void bestSet() {
        MiddleOne none = new MiddleOne();
        due.is("nobody", none.bestSet(100, 0), 0);
        due.is("nobody, how many", none.bestSet(100, 1), 0);
        for (int n = 1; n <= 8; n++) {
            MiddleOne x = many(n);
            // With none at the second gate one is in by 1 stroke, if they are odd; with one there, two, if they are even.
            due.is("how many of " + n + " by 1", x.bestSet(1, 1), n == 1 ? 1 : 2);
            due.is("who of " + n + " by 1", x.bestSet(1, 0), n == 1 ? 0 : n % 2 == 0 ? 1 : 3);
            due.is("how many of " + n + " by 0", x.bestSet(0, 1), 0);
            due.is("who of " + n + " by 0", x.bestSet(0, 0), 0);
            due.is("how many of " + n + " by 100", x.bestSet(100, 1), n);
        }
        // The first gate lets one in, if three are there at once; so all but one go to the second.
        due.is("who of 8 by 100", many(8).bestSet(100, 0), 127);
        due.is("who of 2 by 100", many(2).bestSet(100, 0), 1);
        due.is("who of 3 by 100", many(3).bestSet(100, 0), 3);
        MiddleOne nine = many(9);
        due.is("nine", nine.bestSet(100, 0), STATE);
        due.is("nine, how many", nine.bestSet(100, 1), STATE);
        MiddleOne last = new MiddleOne();
        last.person(150, 99);
        last.person(150, 99);
        due.is("by 99 none", last.bestSet(99, 1), 0);
        due.is("by 100 both", last.bestSet(100, 1), 2);
        due.is("by 100 who", last.bestSet(100, 0), 1);
    }

    /** "the stroke by which all are in (within 100); NOT". */
    private static void atLast() {
        MiddleOne x = new MiddleOne();
        due.is("nobody", x.atLast(), 0);
        for (int p = 0; p < 12; p++) x.person(150, 8 * p + 11);
        due.is("twelve one by one, the last at 99", x.atLast(), 99);
        x.mend(11, COMES, 91);
        due.is("the last two are even", x.atLast(), NOT);
        x.mend(10, COMES, 0);
        due.is("one is ahead of all now", x.atLast(), 91);
        x.mend(5, STAYS, 1);
        due.is("a stay of one stroke is enough", x.atLast(), 91);
        x.mend(4, COMES, 51);
        due.is("for two it is not", x.atLast(), NOT);
    }

    /** "place p of w who wait: the smallest and p times (w less 1) by 4, cut; p 0 .. 4; whether odd or even". */
    private static void rule() {
        for (int w = 1; w <= 12; w++) {
            for (int first = 0; first < w; first++) {
                // Only one stays but one stroke, so it must be the first.
                MiddleOne x = new MiddleOne();
                for (int p = 0; p < w; p++) x.person(100 + p, 0);
                x.mend(first, STAYS, 1);
                int want = NOT;
                for (int p = 4; p >= 0; p--) if (p * (w - 1) / 4 == first) want = p;
                due.is("of " + w + " number " + first + " first", x.rule(w), want);
                due.is("of " + w + " number " + first + " first, by 100", x.rule(100), want);
                due.is("a stroke too few for " + w, x.rule(w - 1), NOT);
            }
        }
        due.is("nobody by none", new MiddleOne().rule(0), 0);
        due.is("nobody by 100", new MiddleOne().rule(100), 0);
        MiddleOne like = many(3);
        like.mend(2, STAYS, 1);
        due.is("of like ones the lesser number is the smaller", like.rule(3), 4);
        MiddleOne late = new MiddleOne();
        late.person(150, 98);
        late.person(150, 98);
        due.is("even ones by 100", late.rule(100), 0);
        due.is("by 99 one alone", late.rule(99), NOT);
        // 0 at 150, 1 at 160: by a law that turns them about, 0 is the tallest.
        MiddleOne turned = Due.crowd(150, 160);
        turned.mend(0, STAYS, 1);
        due.is("0 must be first, and is the smallest", turned.rule(2), 0);
        Due.law(turned, "-h");
        due.is("by the law it is the tallest", turned.rule(2), 4);
    }

    /** "a ROW of bytes .. who was let in stroke by stroke from 0 on (-1: nobody)": 0 to 60 strokes. */
    private static void judged() {
        for (int n : new int[] {0, 1, 2, 59, 60}) {
            MiddleOne x = many(3);
            x.mend(1, STAYS, 60);
            x.row(0, BYTES, n);
            for (int s = 0; s < n; s++) x.put(0, s, s == 0 ? 1 : -1);
            due.is(n + " strokes, all so", x.judge(0), NOT);
            due.is(n + " strokes, heeled", x.heeled(0), 0);
            for (int s : new int[] {0, 1, n - 1}) {
                if (s < 0 || s >= n) continue;
                long so = x.element(0, s);
                for (long v : new long[] {2, 0, 11, 12, 127, -2, -128}) {
                    x.put(0, s, v);
                    due.is("not so at " + s + " of " + n + ": " + v, x.judge(0), s);
                }
                x.put(0, s, s == 0 ? -1 : 1);
                due.is("not so at " + s + " of " + n, x.judge(0), s);
                x.put(0, s, so);
                due.is("so again", x.judge(0), NOT);
            }
        }
        MiddleOne none = new MiddleOne();
        none.row(0, BYTES, 60);
        due.is("0 at first, and nobody is there", none.judge(0), 0);
        for (int s = 0; s < 60; s++) none.put(0, s, -1);
        due.is("nobody at sixty strokes", none.judge(0), NOT);
        none.put(0, 59, 0);
        due.is("not so at the last of all", none.judge(0), 59);
        MiddleOne twelve = new MiddleOne();
        twelve.row(0, BYTES, 12);
        for (int p = 0; p < 12; p++) {
            twelve.person(150, p);
            twelve.put(0, p, p);
        }
        due.is("twelve, each as it comes", twelve.judge(0), NOT);
    }

    /** "of all sets of people who came (8 PEOPLE at most, else STATE), all as told, how many fit"; "who came in all of them"; "NOT: none". */
    private static void with() {
        for (int n = 0; n <= 9; n++) {
            MiddleOne x = many(n);
            x.row(0, BYTES, 0);
            due.is("nothing seen, of " + n, x.with(0, 0), n > 8 ? STATE : 1 << n);
            due.is("nothing seen, who of " + n, x.with(0, 1), n > 8 ? STATE : 0);
            Due.row(x, 0, BYTES, -1);
            due.is("nobody at 0, of " + n, x.with(0, 0), n > 8 ? STATE : n == 0 ? 1 : 1 << (n - 1));
            Due.row(x, 0, BYTES, n);
            due.is("who there is not, of " + n, x.with(0, 0), n > 8 ? STATE : 0);
            due.is("who there is not, who of " + n, x.with(0, 1), n > 8 ? STATE : NOT);
        }
        MiddleOne eight = new MiddleOne();
        eight.row(0, BYTES, 8);
        for (int p = 0; p < 8; p++) {
            eight.person(150, p);
            eight.put(0, p, p);
        }
        due.is("all eight must have come", eight.with(0, 0), 1);
        due.is("all eight", eight.with(0, 1), 255);
        eight.put(0, 7, -1);
        due.is("the last did not", eight.with(0, 1), 127);
        for (int p = 0; p < 8; p++) eight.put(0, p, -1);
        due.is("nobody came", eight.with(0, 0), 1);
        due.is("nobody is in it", eight.with(0, 1), 0);
        MiddleOne law = many(3);
        Due.law(law, "k=2?0;n*0+k+1");
        Due.row(law, 0, BYTES, 2);
        due.is("numbers stay: 2 alone, for of all 0 is the middle one", law.with(0, 1), 4);
        due.is("one set", law.with(0, 0), 1);
        Due.law(law, "n=1?0;k");
        Due.row(law, 0, BYTES, 1);
        due.is("n is how many came: 1 alone and all", law.with(0, 0), 2);
    }

    /** "the least set (by its bits) of those who wore 10 HEELS more (held 20; ..)". */
    private static void heeled() {
        // C wears 0, B much; A is the middle one unless its 10 more make it taller than B.
        int[][] want = {{9, 19, NOT}, {10, 19, 1}, {10, 20, NOT}, {11, 20, NOT}, {20, 20, NOT}, {1, 10, 1}, {1, 11, NOT}, {10, 18, 1}, {19, 19, 1}};
        for (int[] w : want) {
            MiddleOne x = many(3);
            Due.law(x, "e");
            x.mend(0, HEELS, w[0]);
            x.mend(1, HEELS, w[1]);
            Due.row(x, 0, BYTES, 1);
            due.is("A " + w[0] + ", B " + w[1] + ": B is in", x.heeled(0), w[2]);
            Due.row(x, 0, BYTES, 0);
            due.is("A " + w[0] + ", B " + w[1] + ": A is in", x.heeled(0), 0);
        }
        for (int n = 0; n <= 9; n++) {
            MiddleOne x = many(n);
            x.row(0, BYTES, 0);
            due.is("nothing seen, " + n, x.heeled(0), n > 8 ? STATE : 0);
            Due.row(x, 0, BYTES, n);
            due.is("who there is not, " + n, x.heeled(0), n > 8 ? STATE : NOT);
        }
        // Only with 10 more is 7 let in at 0: by its bit alone, the greatest of eight.
        MiddleOne eight = many(8);
        for (int p = 0; p < 7; p++) eight.mend(p, COMES, p < 2 ? 0 : 50);
        Due.law(eight, "k=7?9-(e=10)*7;k*3");
        Due.row(eight, 0, BYTES, 7);
        due.is("the last of eight", eight.heeled(0), 128);
    }

    /** "n days (1 .. 20) of 60 strokes .. (z >>> 8) % 60": alone, whoever comes by 59 is in each day; of two, if the days part them. */
    private static void drawn() {
        MiddleOne one = new MiddleOne();
        one.person(150, 99);
        one.mend(0, STAYS, 1);
        int[] seeds = {0, 1, -1, 255, 256, Integer.MAX_VALUE, Integer.MIN_VALUE, 1103515245, -12345};
        for (int seed : seeds) {
            for (int n = 1; n <= 20; n++) due.is("alone by seed " + seed + ", days " + n, one.drawn(seed, n, 0), n);
            due.is("no day", one.drawn(seed, 0, 0), BAD);
            due.is("a day too many", one.drawn(seed, 21, 0), BAD);
        }
        MiddleOne two = many(2);
        two.mend(0, STAYS, 1);
        two.mend(1, STAYS, 1);
        for (int seed : seeds) {
            int z = seed, apart = 0;
            for (int n = 1; n <= 20; n++) {
                int[] comes = new int[2];
                for (int p = 0; p < 2; p++) {
                    z = (int) (z * 1103515245L + 12345L);
                    comes[p] = (int) (((z & 0xFFFFFFFFL) >> 8) % 60);
                }
                if (comes[0] != comes[1]) apart++;
                due.is("0 by seed " + seed + ", days " + n, two.drawn(seed, n, 0), apart);
                due.is("1 by seed " + seed + ", days " + n, two.drawn(seed, n, 1), apart);
                due.is("all by seed " + seed + ", days " + n, two.drawn(seed, n, -1), 2 * apart);
            }
        }
        due.is("told comings are as they were", two.of(0, COMES), 0);
        due.is("nobody, all", new MiddleOne().drawn(1, 20, -1), 0);
        due.is("nobody, one", new MiddleOne().drawn(1, 20, 0), BAD);
    }

    public static void main(String[] args) {
        sets();
        secondGate();
        where();
        bestSet();
        atLast();
        rule();
        judged();
        with();
        heeled();
        drawn();
        due.ends();
    }
}
