/** Promises 13 to 17: sent, brought, heels, later, allWear. */
public final class WishesTest {
    private static final Due due = new Due("WishesTest");
    private static final int BAD = MiddleOne.BAD, NOT = MiddleOne.NOT;

    private static void sent() {
        MiddleOne x = Due.crowd(100, 110, 120);
        due.is("nobody need go", x.sent(1, 0, 0), 0);
        due.is("nobody", x.sent(1, 0, 1), 0);
        due.is("both others", x.sent(0, 0, 0), 10);
        due.is("both others, who", x.sent(0, 0, 1), 6);
        // With one gone two wait, and nobody gets in for ever; with both gone it is in at 0.
        due.is("at stroke 1 never", x.sent(0, 10, 0), NOT);
        due.is("at stroke 1 never, who", x.sent(0, 10, 1), NOT);
        due.is("by stroke 1", x.sent(0, 11, 1), 6);
        x.mend(1, 2, 1);
        x.mend(2, 2, 2);
        // 1 is let in at 0; 0 and 2 are even at 1; 0 alone at 2.
        due.is("alone at last", x.sent(0, 20, 0), 0);
        due.is("at 1: without 2, since 1 stays but one stroke", x.sent(0, 10, 1), 4);
        due.is("not at 2: it is let in ahead", x.sent(0, 20, 1), 0);
        x.mend(2, 4, 0);
        due.is("free of price, yet nobody is fewer", x.sent(0, 20, 1), 0);
        due.is("free of price", x.sent(0, 10, 0), 0);
        due.is("free of price, who", x.sent(0, 10, 1), 4);

        MiddleOne y = Due.crowd(100, 110, 120, 130, 140);
        // 1 is let in at 0 if it is in the middle: two of 2, 3, 4 go.
        due.is("of like prices the least bits", y.sent(1, 0, 1), 4 + 8);
        y.mend(2, 4, 6);
        due.is("the least price", y.sent(1, 0, 1), 8 + 16);
        due.is("the least price told", y.sent(1, 0, 0), 10);
        y.mend(0, 4, 0);
        y.mend(3, 4, 0);
        y.mend(4, 4, 0);
        y.mend(2, 4, 0);
        due.is("of like prices the fewest", y.sent(1, 0, 1), 4 + 8);

        for (int sb : new int[] {-1, -10, 2, 9, 12, 302, 310, 311, Integer.MAX_VALUE, Integer.MIN_VALUE}) due.is("sb " + sb, x.sent(0, sb, 0), BAD);
        due.is("the last stroke", x.sent(0, 301, 0), 0);
        due.is("nobody there", x.sent(3, 0, 0), BAD);
        due.is("nobody ahead", x.sent(-1, 0, 0), BAD);
        due.is("no what below", x.sent(0, 0, -1), BAD);
        due.is("no what above", x.sent(0, 0, 2), BAD);
        due.is("all are still there", x.day(1, 2), 3);
    }

    /** People who are all there at 0: height, stays, price. */
    private static MiddleOne told(int[]... all) {
        MiddleOne x = new MiddleOne();
        for (int p = 0; p < all.length; p++) {
            x.person(all[p][0], 0);
            x.mend(p, 2, all[p][1]);
            x.mend(p, 4, all[p][2]);
        }
        return x;
    }

    private static void sentOfLikePrices() {
        // Without 0 and 2: 4 is in at 0, 1 is alone at 1. Without 4: even at 0, 1 is alone at 1.
        MiddleOne x = told(new int[][] {{160, 1, 1}, {180, 3, 4}, {190, 1, 1}, {220, 1, 2}, {210, 2, 2}});
        due.is("the price of two ways", x.sent(1, 11, 0), 2);
        due.is("the fewer, though greater by bits", x.sent(1, 11, 1), 16);
        x.mend(4, 4, 3);
        due.is("the lesser price, though more", x.sent(1, 11, 1), 5);
        x.mend(0, 4, 4);
        due.is("the price of the first counts", x.sent(1, 11, 1), 16);
    }

    private static void sentBy() {
        // 0 is alone at 1, since 1 stays but one stroke.
        MiddleOne x = told(new int[][] {{150, 9, 5}, {160, 1, 5}});
        due.is("at 1", x.sent(0, 10, 1), 0);
        due.is("by 1", x.sent(0, 11, 1), 0);
        due.is("by 0", x.sent(0, 1, 1), 2);
        // Whoever comes behind the stroke has no part in it.
        x.person(170, 1);
        x.person(180, 1);
        x.mend(2, 4, 0);
        due.is("at 0", x.sent(0, 0, 1), 2);
        due.is("at 1 with two more, of whom 2 is the middle one", x.sent(0, 10, 0), 5);
        due.is("at 1 without both", x.sent(0, 10, 1), 4 + 8);
        due.is("it must be there itself", x.sent(2, 1, 0), NOT);
    }

    private static void sentByLaw() {
        MiddleOne x = Due.crowd(100, 110, 120);
        Due.law(x, "k=2?0;k+1");
        due.is("numbers stay as they are", x.sent(0, 0, 1), 0);
        due.is("numbers stay, 2 is the smallest", x.sent(2, 0, 1), 3);
    }

    private static void brought() {
        MiddleOne x = Due.crowd(150, 160, 170);
        due.is("none is needed", x.brought(1, 0, 0), 0);
        due.is("none is needed, height", x.brought(1, 0, 1), 0);
        due.is("two for the smallest", x.brought(0, 0, 0), 2);
        due.is("two of the least height", x.brought(0, 0, 1), 100);
        due.is("two for the tallest", x.brought(2, 0, 0), 2);
        due.is("of like ones the boys are the taller", x.brought(2, 0, 1), 170);
        // 160 is in at 0; 150 and 170 wait on.
        due.is("in ahead", x.brought(1, 1, 0), NOT);
        due.is("in ahead, height", x.brought(1, 1, 1), NOT);
        due.is("one for the smaller at 1", x.brought(0, 1, 0), 1);
        due.is("one for the smaller at 1, height", x.brought(0, 1, 1), 100);
        due.is("one for the taller at 98", x.brought(2, 98, 1), 170);
        due.is("all have gone at 99", x.brought(2, 99, 0), NOT);
        due.is("nobody was brought", x.count(0), 3);
        x.mend(0, 2, 5);
        due.is("gone by then", x.brought(0, 5, 0), NOT);
        due.is("gone by then, height", x.brought(0, 5, 1), NOT);

        MiddleOne y = Due.crowd(100, 110, 120, 130);
        due.is("a boy of like height is the taller", y.brought(0, 0, 0), NOT);
        y.mend(0, 0, 101);
        due.is("three for the first", y.brought(0, 0, 0), 3);
        due.is("three for the first, height", y.brought(0, 0, 1), 100);
        due.is("one for the third", y.brought(2, 0, 1), 120);
        due.is("three for the last", y.brought(3, 0, 0), 3);
        due.is("three for the last, height", y.brought(3, 0, 1), 130);
        MiddleOne five = Due.crowd(150, 160, 170, 180, 190);
        due.is("four would be too many", five.brought(0, 0, 0), NOT);
        due.is("two for the second", five.brought(1, 0, 1), 100);
        MiddleOne top = Due.crowd(220, 150, 160);
        due.is("boys of the greatest height", top.brought(0, 0, 1), 220);
        top.mend(0, 3, 1);
        due.is("taller ones there are not", top.brought(0, 0, 1), NOT);
        due.is("nobody there", y.brought(4, 0, 0), BAD);
        due.is("nobody ahead", y.brought(-1, 0, 0), BAD);
        due.is("no stroke below", y.brought(0, -1, 0), BAD);
        due.is("no stroke above", y.brought(0, 100, 0), BAD);
        due.is("no what below", y.brought(0, 0, -1), BAD);
        due.is("no what above", y.brought(0, 0, 2), BAD);
    }

    private static void broughtByLaw() {
        MiddleOne x = Due.crowd(150, 160, 170);
        Due.law(x, "k=3?1;k=4?999;k*100+n*0+e+w");
        due.is("numbers are behind all", x.brought(1, 0, 0), 0);
        // Two boys, one the smallest, one the tallest: the middle stays as it is.
        due.is("a pair about the middle", x.brought(0, 0, 0), NOT);
        Due.law(x, "n=5?k=0?0;h");
        due.is("that is no law", x.brought(0, 0, 0), NOT);
        Due.law(x, "n=5&k>2?h-500;n=5?k;h");
        due.is("by n, which counts the boys", x.brought(0, 0, 0), 2);
        MiddleOne full = new MiddleOne();
        for (int p = 0; p < 12; p++) full.person(150, 0);
        due.is("boys come behind twelve", full.brought(6, 0, 0), 1);
        due.is("boys come behind twelve, height", full.brought(6, 0, 1), 150);
        due.is("three behind twelve", full.brought(7, 0, 1), 150);
        due.is("three behind twelve, how many", full.brought(7, 0, 0), 3);
    }

    private static void heels() {
        MiddleOne x = Due.crowd(150, 155, 165);
        due.is("as tall as 1, yet the lesser number", x.heels(0, 1, 0), 6);
        due.is("till as tall as 2", x.heels(0, 1, 2), 0x1FFFC0 & ((1 << 16) - 1));
        due.is("the earliest", x.heels(0, 1, 1), 6);
        due.is("harm", x.heels(1, 1, 2), (1 << 11) - 1);
        due.is("harm, the least", x.heels(1, 1, 0), 0);
        due.is("never", x.heels(2, 1, 0), NOT);
        due.is("never earliest", x.heels(2, 1, 1), NOT);
        due.is("none helps", x.heels(2, 1, 2), 0);
        due.is("no stroke", x.heels(1, 0, 0), NOT);
        x.mend(2, 2, 2);
        // With 1 in at 0, 0 waits alone at 2; with 2 in at 0, for which 0 is too tall from 16 on, it never is alone.
        due.is("the least by 3", x.heels(0, 3, 0), 0);
        due.is("the earliest by 3", x.heels(0, 3, 1), 6);
        due.is("the earliest by 100", x.heels(0, 100, 1), 6);
        due.is("too high ones harm by 3", x.heels(0, 3, 2), 0xFFFF);
        x.mend(1, 2, 2);
        due.is("all help by 3", x.heels(0, 3, 2), 0x1FFFFF);
        x.mend(1, 2, 99);
        x.mend(0, 3, 20);
        due.is("told heels do not count", x.heels(0, 1, 0), 6);
        due.is("told heels stay", x.of(0, 3), 20);
        due.is("nobody there", x.heels(3, 1, 0), BAD);
        due.is("nobody ahead", x.heels(-1, 1, 0), BAD);
        due.is("too few", x.heels(0, -1, 0), BAD);
        due.is("too many", x.heels(0, 101, 0), BAD);
        due.is("no what below", x.heels(0, 1, -1), BAD);
        due.is("no what above", x.heels(0, 1, 3), BAD);
        MiddleOne y = Due.crowd(150, 170, 180);
        due.is("the highest heels", y.heels(0, 1, 0), NOT);
        y.mend(1, 0, 169);
        due.is("the highest heels help", y.heels(0, 1, 0), 20);
        due.is("the highest heels, bits", y.heels(0, 1, 2), 1 << 20);
    }

    private static void later() {
        MiddleOne x = Due.crowd(150, 160, 170);
        // Ahead of 99 it makes 1 the middle one, and is even with 2 then; at 99 they have gone.
        due.is("at the very last", x.later(0), 99);
        x.person(160, 99);
        x.person(170, 99);
        due.is("nor is it the middle one at 99", x.later(0), NOT);
        x = Due.crowd(150, 160, 170);
        due.is("at once", x.later(1), 0);
        x.mend(1, 2, 3);
        x.mend(2, 2, 4);
        // 1 and 2 are even till 1 goes; at 3 there are two with 0, at 4 it is alone.
        due.is("when all have gone", x.later(0), 4);
        due.is("told coming stays", x.of(0, 1), 0);
        x.mend(0, 2, 1);
        due.is("for one stroke", x.later(0), 4);
        due.is("nobody there", x.later(3), BAD);
        due.is("nobody ahead", x.later(-1), BAD);
        MiddleOne y = new MiddleOne();
        y.person(150, 50);
        due.is("alone: the earliest of all", y.later(0), 0);
        MiddleOne z = Due.crowd(150, 160, 170);
        for (int p = 1; p < 3; p++) {
            z.mend(p, 1, 1);
            z.mend(p, 2, 99);
        }
        due.is("ahead of the others", z.later(0), 0);
        z.mend(0, 1, 99);
        due.is("told coming does not count", z.later(0), 0);
        MiddleOne last = Due.crowd(150, 160);
        last.mend(0, 1, 3);
        last.mend(1, 2, 99);
        due.is("1 is in at 0: later is best", last.later(0), 1);
    }

    private static void allWear() {
        due.is("nobody chooses", new MiddleOne().allWear(-1), 1);
        MiddleOne x = Due.crowd(150);
        due.is("one without heels", x.allWear(-1), 1);
        x.mend(0, 3, 9);
        due.is("one takes them off", x.allWear(-1), 2);
        due.is("heels then", x.allWear(0), 0);
        due.is("heels told stay", x.of(0, 3), 9);
        MiddleOne y = Due.crowd(150, 160);
        y.mend(1, 3, 4);
        due.is("never is like never: the least", y.allWear(1), 0);
        due.is("two rounds for it", y.allWear(-1), 2);
        MiddleOne z = Due.crowd(150, 155, 200);
        // 0 wears 6 to be the middle one; 1 wears 2 (157) to be it again; 0 wears 8, .. till 1 wears 16 and 0 would need 22.
        due.is("someone gives up, then it begins anew", z.allWear(-1), NOT);
        due.is("heels of none", z.allWear(0), NOT);
        due.is("the highest heels are worn, too", Due.crowd(150, 169, 200).allWear(-1), NOT);
        MiddleOne w = Due.crowd(150, 175, 200);
        due.is("out of reach", w.allWear(-1), 1);
        due.is("heels of the middle one", w.allWear(1), 0);
        due.is("nobody there", w.allWear(3), BAD);
        due.is("nobody ahead", w.allWear(-2), BAD);
    }

    /** Found by trying: one crowd needs 20 rounds, the other 21. */
    private static void allWearRounds() {
        MiddleOne x = new MiddleOne();
        int[][] twenty = {{178, 2, 99}, {157, 1, 99}, {157, 3, 5}, {159, 1, 99}, {176, 2, 5}};
        for (int p = 0; p < 5; p++) {
            x.person(twenty[p][0], twenty[p][1]);
            x.mend(p, 2, twenty[p][2]);
        }
        due.is("the last round of all", x.allWear(-1), 20);
        MiddleOne y = new MiddleOne();
        int[][] more = {{155, 1, 4}, {155, 1, 99}, {175, 3, 3}, {174, 1, 3}};
        for (int p = 0; p < 4; p++) {
            y.person(more[p][0], more[p][1]);
            y.mend(p, 2, more[p][2]);
        }
        due.is("one round too many", y.allWear(-1), NOT);
    }

    private static void allWearWithin30() {
        MiddleOne x = new MiddleOne();
        x.person(150, 30);
        x.mend(0, 3, 5);
        due.is("behind 30 strokes is never", x.allWear(0), 0);
        MiddleOne y = new MiddleOne();
        y.person(150, 29);
        y.person(155, 29);
        y.person(200, 29);
        due.is("at the last of 30 heels count", y.allWear(-1), NOT);
        for (int p = 0; p < 3; p++) y.mend(p, 1, 30);
        due.is("behind them they do not", y.allWear(-1), 1);
    }

    public static void main(String[] args) {
        sent();
        sentOfLikePrices();
        sentBy();
        sentByLaw();
        brought();
        broughtByLaw();
        heels();
        later();
        allWear();
        allWearRounds();
        allWearWithin30();
        due.ends();
    }
}
