/** Part 2 of the document, sentence by sentence: days in thought, and what one should do to be let in. */
public final class EdgesDaysTest {
    private static final Due due = new Due("EdgesDaysTest");
    private static final int NOT = -2, ALL_HEELS = (1 << 21) - 1;
    private static final int COMES = 1, STAYS = 2, HEELS = 3, PRICE = 4;

    private static MiddleOne alone(int comes) {
        MiddleOne x = new MiddleOne();
        x.person(150, comes);
        return x;
    }

    /** People as told: height, comes, stays. */
    private static MiddleOne told(int[]... all) {
        MiddleOne x = new MiddleOne();
        for (int p = 0; p < all.length; p++) {
            x.person(all[p][0], all[p][1]);
            x.mend(p, STAYS, all[p][2]);
        }
        return x;
    }

    private static MiddleOne twelve() {
        MiddleOne x = new MiddleOne();
        for (int p = 0; p < 12; p++) x.person(150, 0);
        return x;
    }

    /** "n strokes (0 .. 100)": stroke n - 1 is the last of them. */
    private static void byStrokes() {
        for (int c : new int[] {0, 1, 50, 98, 99}) {
            MiddleOne x = alone(c);
            for (int n : new int[] {0, c, c + 1, 100}) {
                boolean in = n > c;
                String by = ", comes at " + c + ", by " + n;
                due.is("enters" + by, x.enters(0, n), in ? c : NOT);
                due.is("in" + by, x.day(n, 0), in ? 1 : 0);
                due.is("longest" + by, x.day(n, 2), in ? 1 : 0);
                due.is("mean wait" + by, x.mean(n, 0, 0), in ? 0 : NOT);
                due.is("mean wait below" + by, x.mean(n, 0, 1), in ? 1 : NOT);
                due.is("mean height" + by, x.mean(n, 1, 0), in ? 150 : NOT);
                due.is("mean height below" + by, x.mean(n, 1, 1), in ? 1 : NOT);
                due.is("least heels" + by, x.heels(0, n, 0), in ? 0 : NOT);
                due.is("earliest heels" + by, x.heels(0, n, 1), in ? 0 : NOT);
                due.is("harm" + by, x.heels(0, n, 2), in ? ALL_HEELS : 0);
                due.is("rule" + by, x.rule(n), in ? 0 : NOT);
                due.is("best set" + by, x.bestSet(n, 0), 0);
                due.is("best set, how many" + by, x.bestSet(n, 1), in ? 1 : 0);
            }
            due.is("at stroke " + c, x.stroke(c, 0), 0);
            due.is("at last", x.atLast(), c);
        }
    }

    /** "who is at a stroke (NOT); how many wait at it": strokes 0 and 99. */
    private static void strokes() {
        MiddleOne x = told(new int[] {150, 0, 1}, new int[] {160, 0, 1}, new int[] {170, 0, 1}, new int[] {150, 99, 9});
        due.is("who at 0", x.stroke(0, 0), 1);
        due.is("how many at 0", x.stroke(0, 1), 3);
        for (int s : new int[] {1, 50, 98}) {
            due.is("who at " + s, x.stroke(s, 0), NOT);
            due.is("how many at " + s, x.stroke(s, 1), 0);
        }
        due.is("who at 99", x.stroke(99, 0), 3);
        due.is("how many at 99", x.stroke(99, 1), 1);
    }

    /** "LONGEST: the greatest number that wait at a stroke": of those by n, whoever is let in at it counted. */
    private static void longest() {
        MiddleOne none = new MiddleOne();
        for (int n : new int[] {0, 1, 100}) due.is("nobody by " + n, none.day(n, 2), 0);
        MiddleOne x = twelve();
        due.is("none by 0", x.day(0, 2), 0);
        due.is("twelve by 1", x.day(1, 2), 12);
        due.is("twelve by 100", x.day(100, 2), 12);
        MiddleOne late = told(new int[] {150, 3, 9}, new int[] {150, 99, 9}, new int[] {150, 99, 9});
        due.is("one by 99", late.day(99, 2), 1);
        due.is("two by 100", late.day(100, 2), 2);
        MiddleOne early = told(new int[] {150, 0, 1}, new int[] {150, 0, 1}, new int[] {150, 0, 1}, new int[] {150, 5, 9});
        due.is("three, one of them let in then", early.day(1, 2), 3);
        due.is("the greatest stays", early.day(100, 2), 3);
    }

    /** "how many went without": "STAYS over by then", so COMES and STAYS are no more than n. */
    private static void without() {
        int[][] stays = {{0, 1}, {0, 99}, {1, 99}, {50, 50}, {98, 1}, {99, 1}, {98, 2}, {40, 20}};
        for (int[] w : stays) {
            MiddleOne x = told(new int[] {150, w[0], w[1]}, new int[] {150, w[0], w[1]});
            int over = w[0] + w[1];
            due.is("none by 0", x.day(0, 1), 0);
            due.is("none a stroke ahead of " + over, x.day(over - 1, 1), 0);
            due.is("both by " + over, x.day(over, 1), 2);
            due.is("both by 100", x.day(100, 1), 2);
        }
        for (int[] w : new int[][] {{99, 2}, {2, 99}, {99, 99}, {51, 50}}) {
            MiddleOne x = told(new int[] {150, w[0], w[1]}, new int[] {150, w[0], w[1]});
            due.is("who still stays is none, COMES " + w[0], x.day(100, 1), 0);
        }
        MiddleOne x = told(new int[] {150, 0, 1}, new int[] {160, 0, 1}, new int[] {170, 0, 1});
        due.is("who is in is none", x.day(1, 1), 2);
        due.is("nobody at all", new MiddleOne().day(100, 1), 0);
    }

    /** "a fraction in lowest terms"; "HEELS off"; "NOT: nobody". */
    private static void means() {
        MiddleOne x = told(new int[] {150, 0, 99}, new int[] {150, 0, 98});
        due.is("nobody by 98", x.mean(98, 0, 0), NOT);
        due.is("the longest wait of all", x.mean(99, 0, 0), 98);
        due.is("below the line", x.mean(99, 0, 1), 1);
        MiddleOne y = new MiddleOne();
        for (int p = 0; p < 12; p++) {
            y.person(100 + p, p);
            y.mend(p, HEELS, 20 - p);
        }
        due.is("twelve without a wait", y.mean(100, 0, 0), 0);
        due.is("0 in lowest terms", y.mean(100, 0, 1), 1);
        // 100 + .. + 111 is 1266.
        due.is("1266 by 12, above", y.mean(100, 1, 0), 211);
        due.is("1266 by 12, below", y.mean(100, 1, 1), 2);
        due.is("1055 by 10, above", y.mean(11, 1, 0), 105);
        due.is("1155 by 11, below", y.mean(11, 1, 1), 1);
        MiddleOne tall = alone(0);
        tall.mend(0, 0, 220);
        tall.mend(0, HEELS, 20);
        due.is("heels are off", tall.mean(1, 1, 0), 220);
        // Two are even till one goes, so the other waits: 1 by 1, by 2, by 3; then 4 by 5, by 6.
        MiddleOne z = told(new int[] {150, 0, 9}, new int[] {150, 0, 1}, new int[] {150, 5, 1}, new int[] {150, 6, 1},
            new int[] {150, 10, 9}, new int[] {150, 10, 3}, new int[] {150, 14, 1}, new int[] {150, 15, 1});
        int[][] want = {{2, 1, 1}, {6, 1, 2}, {7, 1, 3}, {13, 1, 3}, {14, 1, 1}, {15, 4, 5}, {16, 2, 3}, {100, 2, 3}};
        for (int[] w : want) {
            due.is("mean wait by " + w[0], z.mean(w[0], 0, 0), w[1]);
            due.is("mean wait by " + w[0] + ", below", z.mean(w[0], 0, 1), w[2]);
        }
    }

    /** "at stroke s (at it, or, told so, by it)", s 0 .. 30. */
    private static void sentAtAndBy() {
        for (int c : new int[] {0, 1, 7, 29, 30}) {
            MiddleOne x = alone(c);
            for (int s = 0; s <= 30; s++) {
                due.is("comes at " + c + ", at " + s, x.sent(0, 10 * s, 0), s == c ? 0 : NOT);
                due.is("comes at " + c + ", by " + s, x.sent(0, 10 * s + 1, 0), s >= c ? 0 : NOT);
                due.is("who, at " + s, x.sent(0, 10 * s, 1), s == c ? 0 : NOT);
                due.is("who, by " + s, x.sent(0, 10 * s + 1, 1), s >= c ? 0 : NOT);
            }
        }
        MiddleOne late = alone(31);
        due.is("at 30 it is not there", late.sent(0, 300, 0), NOT);
        due.is("nor by 30", late.sent(0, 301, 0), NOT);
        // 1 would be in at 0; without 0 it is even with 2, which stays but one stroke.
        MiddleOne x = told(new int[] {150, 0, 99}, new int[] {160, 0, 99}, new int[] {170, 0, 1});
        due.is("later than it would be, who", x.sent(1, 10, 1), 1);
        due.is("by then nobody need go", x.sent(1, 11, 1), 0);
        for (int price : new int[] {0, 1, 99}) {
            x.mend(0, PRICE, price);
            due.is("for a price of " + price, x.sent(1, 10, 0), price);
        }
    }

    /** "the least PRICE of people (others than one)": from none to all eleven of them. */
    private static void sentMany() {
        MiddleOne x = twelve();
        due.is("the tallest must be alone", x.sent(11, 0, 0), 55);
        due.is("all below", x.sent(11, 0, 1), 2047);
        due.is("the smallest must be alone", x.sent(0, 0, 0), 55);
        due.is("all above", x.sent(0, 0, 1), 4094);
        due.is("5 without one above: the least bits", x.sent(5, 0, 1), 64);
        due.is("6 without one below: the least bits", x.sent(6, 0, 1), 1);
        x.mend(11, PRICE, 99);
        due.is("one's own price is none", x.sent(11, 0, 0), 55);
        for (int p = 0; p < 11; p++) x.mend(p, PRICE, 99);
        due.is("the greatest price of all", x.sent(11, 0, 0), 1089);
        for (int p = 0; p < 12; p++) x.mend(p, PRICE, 0);
        due.is("the least price of all", x.sent(11, 0, 0), 0);
        due.is("still all must go", x.sent(11, 0, 1), 2047);
        due.is("of like ones fewest", x.sent(5, 0, 1), 64);
        x.mend(6, PRICE, 1);
        due.is("the least price ahead of the least bits", x.sent(5, 0, 1), 128);
    }

    /** "who do not come at all": not at the strokes ahead either. */
    private static void sentNeverCame() {
        // 0, 1, 2 wait at 0: 1 is in. Without 1 they are even; 2 goes; so 0 is alone at 1.
        MiddleOne x = told(new int[] {150, 0, 9}, new int[] {160, 0, 99}, new int[] {170, 0, 1});
        due.is("alone at 1 as it is", x.sent(0, 10, 1), 0);
        // With 3, who comes at 1, they are even at 1 and on: without 1 there are 0 and 3 at 1, too.
        x.person(180, 1);
        due.is("without 3", x.sent(0, 10, 1), 8);
        x.mend(3, PRICE, 99);
        // Without 1 nobody is in at 0, and at 1 there are 0 and 3. Without 2, 0 and 1 are even at 0, and at 1 with 3 1 is the middle one.
        due.is("no other way", x.sent(0, 10, 0), 99);
        x.mend(1, 0, 140);
        // Now 0 (150) is the middle one at 0; to be so at 1, without 2: 1, 0 are even, then 1, 0, 3.
        due.is("at 0 as it is", x.sent(0, 0, 1), 0);
        due.is("at 1 without 2", x.sent(0, 10, 1), 4);
    }

    /** "boys (0 .. 3), all of one HEIGHT (100 .. 220), who come at stroke s, stay for it alone". */
    private static void boys() {
        for (int s : new int[] {0, 1, 50, 98, 99}) {
            MiddleOne x = told(new int[] {150, s, 1}, new int[] {150, s, 1});
            due.is("one boy at " + s, x.brought(0, s, 0), 1);
            due.is("the least height of all", x.brought(0, s, 1), 100);
            due.is("one boy for the greater number", x.brought(1, s, 0), 1);
            due.is("as tall, since his number is behind", x.brought(1, s, 1), 150);
            if (s > 0) due.is("not there yet", x.brought(0, s - 1, 0), NOT);
            if (s > 0) due.is("not there yet, height", x.brought(0, s - 1, 1), NOT);
            if (s < 99) due.is("there no more", x.brought(0, s + 1, 0), NOT);
            MiddleOne one = told(new int[] {150, s, 1});
            due.is("none is needed at " + s, one.brought(0, s, 0), 0);
            due.is("none is needed at " + s + ", height", one.brought(0, s, 1), 0);
        }
        MiddleOne ends = Due.crowd(100, 220);
        due.is("no boy is smaller than 100", ends.brought(0, 0, 0), NOT);
        due.is("a boy of 220", ends.brought(1, 0, 1), 220);
        ends.mend(0, HEELS, 1);
        due.is("101 is taller than a boy of 100", ends.brought(0, 0, 1), 100);
        ends.mend(1, HEELS, 1);
        due.is("221 is taller than all boys", ends.brought(1, 0, 0), NOT);
        due.is("221 is taller than all boys, height", ends.brought(1, 0, 1), NOT);
        // Of n like ones, the last needs as many as tall as it; with 2, 3, 4 ahead that is 1 (of 2), 2 (of 3), 3 (of 4), 4 (of 5).
        int[] many = {0, 0, 1, 2, 3, NOT};
        for (int n = 1; n <= 5; n++) {
            MiddleOne x = new MiddleOne();
            for (int p = 0; p < n; p++) x.person(150, 0);
            due.is("boys for the last of " + n, x.brought(n - 1, 0, 0), many[n]);
            due.is("their height", x.brought(n - 1, 0, 1), n == 1 ? 0 : n == 5 ? NOT : 150);
        }
    }

    /** Boys wear no HEELS, have waited 0 strokes, and have the numbers behind all. */
    private static void boysByLaw() {
        MiddleOne x = told(new int[] {150, 0, 99}, new int[] {160, 0, 99});
        x.mend(0, HEELS, 5);
        x.mend(1, HEELS, 9);
        Due.law(x, "e");
        due.is("without heels they are the smallest", x.brought(0, 5, 1), 100);
        due.is("so never the tallest", x.brought(1, 5, 0), NOT);
        Due.law(x, "w=0?h+100;h");
        due.is("as they come they are tall", x.brought(1, 5, 1), 100);
        due.is("so never small", x.brought(0, 5, 0), NOT);
        Due.law(x, "k");
        due.is("behind all", x.brought(1, 5, 0), 1);
        due.is("so not ahead", x.brought(0, 5, 0), NOT);
        Due.law(x, "k=2?9;k>2?0;k+1");
        due.is("2 is tall, 3 and 4 are small", x.brought(0, 5, 0), 3);
        due.is("of the least height", x.brought(0, 5, 1), 100);
        due.is("2 alone", x.brought(1, 5, 0), 1);
        due.is("no number is kept for them", x.person(150, 0), 2);
    }

    /** "HEELS (0 .. 20)": the first and the last alone; the least and the earliest are not the same. */
    private static void heels() {
        MiddleOne x = Due.crowd(150, 160, 170);
        Due.law(x, "k=0?!e*5;k=1?1;9");
        due.is("0 alone helps: least", x.heels(0, 1, 0), 0);
        due.is("0 alone helps: earliest", x.heels(0, 1, 1), 0);
        due.is("0 alone helps: bits", x.heels(0, 1, 2), 1);
        Due.law(x, "k=0?(e=20)*5;k=1?1;9");
        due.is("20 alone helps: least", x.heels(0, 1, 0), 20);
        due.is("20 alone helps: earliest", x.heels(0, 1, 1), 20);
        due.is("20 alone helps: bits", x.heels(0, 1, 2), 1 << 20);
        // By 3 it is in at 2, by 7 and 9 at 0, by all others at 3, when it is alone.
        MiddleOne y = told(new int[] {150, 0, 99}, new int[] {150, 0, 1}, new int[] {150, 0, 1}, new int[] {150, 2, 1}, new int[] {150, 2, 1},
            new int[] {150, 1, 1});
        Due.law(y, "k=0?(e=3&s=2|e=7|e=9)*5;k%2=1?1;9");
        int[][] want = {{0, NOT, NOT, 0}, {1, 7, 7, 1 << 7 | 1 << 9}, {2, 7, 7, 1 << 7 | 1 << 9}, {3, 3, 7, 1 << 3 | 1 << 7 | 1 << 9},
            {4, 0, 7, ALL_HEELS}, {100, 0, 7, ALL_HEELS}};
        for (int[] w : want) {
            for (int what = 0; what < 3; what++) due.is("heels by " + w[0] + ", what " + what, y.heels(0, w[0], what), w[what + 1]);
        }
    }

    /** "the COMES (0 .. 99) by which one waits least till it is let in within 100 strokes (of like ones the earliest)". */
    private static void later() {
        // With 1, who is there for s strokes and would be let in at 0: it is best to come behind it, at 1, not at 0, when they are even.
        for (int s : new int[] {1, 50, 99}) {
            MiddleOne x = told(new int[] {150, 0, 99}, new int[] {150, 0, s});
            due.is("behind it", x.later(0), 1);
        }
        // 1 and 2 are even for 98 strokes, and the smallest of three is never let in: alone at 98, or at 99.
        MiddleOne x = told(new int[] {150, 0, 99}, new int[] {160, 0, 98}, new int[] {170, 0, 98});
        due.is("alone at 98", x.later(0), 98);
        x.mend(1, STAYS, 99);
        x.mend(2, STAYS, 99);
        due.is("alone at 99", x.later(0), 99);
        // From 1 on till behind 99: coming at 0 it is alone.
        x.mend(1, COMES, 1);
        x.mend(2, COMES, 1);
        due.is("alone at 0", x.later(0), 0);
        x.person(180, 0);
        x.mend(3, STAYS, 1);
        // At 0 it is even with 3, at 1 the smallest of three, then even with 2 to the end.
        due.is("with 3 at 0 never", x.later(0), NOT);
        x.mend(2, STAYS, 2);
        // 1 and 2 are even at 1 and 2; 1 is alone, and in, at 3; so it is alone at 4. Coming at 1 or 2 makes 1 the middle one.
        due.is("a wait of none ahead of one that is earlier in", x.later(0), 4);
        due.is("coming at 1 it is in at 3", inIfItComes(x, 1), 3);
    }

    private static int inIfItComes(MiddleOne x, int comes) {
        x.mend(0, COMES, comes);
        int at = x.enters(0, 100);
        x.undo();
        return at;
    }

    /** "(within 30 strokes; never is latest; of like ones the least)", "how many rounds (that one, too; 1 .. 20)". */
    private static void allWear() {
        for (int c : new int[] {29, 30}) {
            // 150, 155, 160: 0 wants more than 5 to be the middle one, if it counts at all.
            MiddleOne x = told(new int[] {150, c, 1}, new int[] {155, c, 1}, new int[] {200, c, 1});
            due.is("at " + c, x.allWear(-1), c == 29 ? NOT : 1);
        }
        MiddleOne one = alone(0);
        due.is("it is in by all, and wears none", one.allWear(0), 0);
        one.mend(0, HEELS, 20);
        due.is("it takes them off", one.allWear(-1), 2);
        due.is("to none", one.allWear(0), 0);
        due.is("as told it wears them still", one.of(0, HEELS), 20);
        MiddleOne none = new MiddleOne();
        due.is("nobody changes in the first round", none.allWear(-1), 1);
        // 0 needs 20 to be as tall as 1's 170, and is the smaller one then: it cannot be the middle one.
        MiddleOne far = Due.crowd(150, 170, 200);
        due.is("out of reach", far.allWear(-1), 1);
        // 169 is in its reach: 0 wears 20, 1 then 2 (171), so 0 is out of reach and wears none, so does 1: for ever.
        MiddleOne near = Due.crowd(150, 169, 200);
        due.is("in reach", near.allWear(-1), NOT);
        due.is("nor then", near.allWear(2), NOT);
        MiddleOne twelve = twelve();
        due.is("twelve are even for ever", twelve.allWear(-1), 1);
        for (int p = 0; p < 12; p++) twelve.mend(p, HEELS, p);
        due.is("and wear none in the end", twelve.allWear(11), 0);
        due.is("in two rounds", twelve.allWear(-1), 2);
    }

    public static void main(String[] args) {
        byStrokes();
        strokes();
        longest();
        without();
        means();
        sentAtAndBy();
        sentMany();
        sentNeverCame();
        boys();
        boysByLaw();
        heels();
        later();
        allWear();
        due.ends();
    }
}
