/** Part 4 of the document, sentence by sentence: strokes in deed, what is led, changes, the image. */
public final class EdgesDeedTest {
    private static final Due due = new Due("EdgesDeedTest");
    private static final int BAD = -1, NOT = -2, STATE = -5;
    private static final int HEIGHT = 0, COMES = 1, STAYS = 2, HEELS = 3, PRICE = 4;

    private static void led(MiddleOne x, String when, int... want) {
        for (int what = 0; what < 6; what++) due.is(when + ": led(" + what + ")", x.led(what), want[what]);
    }

    private static MiddleOne many(int n) {
        MiddleOne x = new MiddleOne();
        for (int p = 0; p < n; p++) x.person(150, 0);
        return x;
    }

    /** "a STROKE (NOW 0 .. 999) passes: who is let in": also where nobody is, so NOW goes on. */
    private static void strokesPass() {
        MiddleOne x = new MiddleOne();
        led(x, "a new object", 0, 0, 0, 0, 0, 0);
        for (int s = 0; s < 380; s++) due.is("nobody at " + s, x.strike(), NOT);
        led(x, "380 strokes", 380, 0, 0, 0, 0, 380);
        x.person(150, 99);
        due.is("gone long since", x.of(0, 10), 0);
        due.is("NOW 0 again", x.dawn(), 0);
        led(x, "a new day", 380, 0, 0, 1, 0, 0);
        for (int s = 0; s < 99; s++) x.strike();
        due.is("waits at 99", x.of(0, 10), 1);
        due.is("is let in at 99", x.strike(), 0);
        led(x, "let in", 480, 1, 0, 1, 1, 100);
        due.is("at which stroke", x.of(0, 11), 99);
    }

    /** A stroke beyond those of a day in thought goes by the same law and the same stays. */
    private static void beyondADay() {
        MiddleOne x = new MiddleOne();
        for (int p = 0; p < 3; p++) x.person(150 + p, 99);
        x.person(140, 99);
        Due.law(x, "s>149&k=0?999;s>149?w;h");
        for (int s = 0; s < 150; s++) due.is("even, or nobody, at " + s, x.strike(), NOT);
        x.mend(3, STAYS, 51);
        // At 150 0 is 999, 1 and 2 are 51: of like ones 2 is the taller.
        due.is("at 150 by the law", x.strike(), 2);
        due.is("two are even", x.strike(), NOT);
        x.mend(0, STAYS, 53);
        due.is("0 has gone at 152", x.strike(), 1);
        due.is("as it was let in", x.of(1, 11), 152);
        MiddleOne y = many(2);
        y.mend(0, COMES, 99);
        y.mend(1, COMES, 99);
        for (int s = 0; s < 197; s++) y.strike();
        due.is("the last stroke of the longest stay", y.count(1), 2);
        y.strike();
        due.is("behind it", y.count(1), 0);
    }

    /** "NOW is 999": not within 512 calls, so it is shown on an object that lives longer. */
    private static void theLastStroke() {
        MiddleOne x = many(2);
        for (int s = 0; s < 998; s++) x.strike();
        due.is("at 998 it passes", x.strike(), NOT);
        due.is("NOW 999", x.led(5), 999);
        due.is("at 999 none passes", x.strike(), STATE);
        led(x, "as it was", 999, 0, 0, 0, 2, 999);
        due.is("the image of it", x.image(), 999);
        due.is("a new day", x.dawn(), 0);
        due.is("a stroke of it", x.strike(), NOT);
        due.is("laid back", x.back(), 999);
        due.is("none passes then", x.strike(), STATE);
    }

    /** "one is TAKEN AWAY (it waits no more, till DAWN)"; "STATE: it does not WAIT". */
    private static void takenAway() {
        MiddleOne x = many(12);
        for (int p = 0; p < 12; p++) {
            due.is("waits", x.of(p, 10), 1);
            due.is("taken away at 0", x.take(p), 0);
            due.is("waits no more", x.of(p, 10), 0);
            due.is("not twice", x.take(p), STATE);
            due.is("how many wait", x.count(1), 11 - p);
        }
        due.is("nobody is left", x.strike(), NOT);
        led(x, "all away", 1, 0, 12, 0, 0, 1);
        due.is("still away at 1", x.take(0), STATE);
        due.is("nobody was in", x.dawn(), 0);
        due.is("all wait again", x.count(1), 12);
        due.is("to be taken once more", x.take(0), 0);
        led(x, "one more", 1, 0, 13, 1, 0, 0);
        due.is("eleven wait", x.strike(), 6);
        MiddleOne y = many(2);
        y.mend(0, COMES, 3);
        y.mend(0, STAYS, 2);
        y.mend(1, STAYS, 99);
        for (int s = 0; s < 3; s++) {
            due.is("not there yet at " + s, y.take(0), STATE);
            y.strike();
        }
        y.dawn();
        y.take(1);
        for (int s = 0; s < 3; s++) y.strike();
        y.image();
        due.is("as it comes", y.take(0), 3);
        y.back();
        y.mend(1, COMES, 4);
        y.mend(0, COMES, 2);
        due.is("at the last stroke of its stay", y.take(0), 3);
        y.back();
        y.mend(0, COMES, 1);
        due.is("when its stay is over", y.take(0), STATE);
        y.mend(0, COMES, 3);
        due.is("in at 3", y.strike(), 0);
        due.is("who is in", y.take(0), STATE);
        led(y, "taken so far", 7, 2, 1, 1, 1, 4);
    }

    /** "DAWN: NOW 0, nobody is in, nobody away"; "how many were in". */
    private static void dawn() {
        MiddleOne x = many(12);
        for (int p = 0; p < 12; p++) x.mend(p, COMES, p);
        for (int n = 0; n <= 12; n++) {
            for (int s = 0; s < n; s++) due.is("in at " + s, x.strike(), s);
            due.is("in", x.count(2), n);
            due.is("were in", x.dawn(), n);
            due.is("nobody is in", x.count(2), 0);
            due.is("NOW", x.led(5), 0);
            due.is("only the first waits", x.count(1), 1);
            for (int p = 0; p < 12; p++) due.is("not in: " + p, x.of(p, 11), NOT);
        }
        led(x, "thirteen dawns", 78, 78, 0, 13, 1, 0);
    }

    /** "LED: .. the most who waited": at a stroke in deed, whoever is let in at it counted, whoever is away not. */
    private static void theMost() {
        MiddleOne x = many(12);
        led(x, "nobody waited at a stroke yet", 0, 0, 0, 0, 0, 0);
        x.take(3);
        led(x, "nor by a taking", 0, 0, 1, 0, 0, 0);
        due.is("eleven", x.strike(), 6);
        led(x, "eleven", 1, 1, 1, 0, 11, 1);
        x.strike();
        x.dawn();
        led(x, "eleven still", 2, 1, 1, 1, 11, 0);
        x.image();
        x.strike();
        led(x, "twelve", 3, 1, 1, 1, 12, 1);
        x.back();
        led(x, "laid back: eleven", 2, 1, 1, 1, 11, 0);
    }

    /** "AN IMAGE keeps NOW, who is in, away, what LED tells"; "(PEOPLE that came since: not in, not away)". */
    private static void image() {
        MiddleOne x = new MiddleOne();
        due.is("there is none", x.back(), STATE);
        due.is("of a new object", x.image(), 0);
        due.is("laid back at once", x.back(), 0);
        for (int p = 0; p < 12; p++) x.person(150 + p, 0);
        x.take(0);
        due.is("the middle one of eleven", x.strike(), 6);
        x.strike();
        x.dawn();
        x.take(5);
        x.strike();
        due.is("laid back, before all of it", x.back(), 0);
        led(x, "as it was", 0, 0, 0, 0, 0, 0);
        for (int p = 0; p < 12; p++) {
            due.is("came since, not away: " + p, x.of(p, 10), 1);
            due.is("came since, not in: " + p, x.of(p, 11), NOT);
        }
        due.is("people stay", x.count(0), 12);
        x.take(11);
        x.strike();
        due.is("another one", x.image(), 1);
        for (int times = 0; times < 3; times++) {
            x.dawn();
            due.is("laid back again", x.back(), 1);
            led(x, "as kept", 1, 1, 1, 0, 11, 1);
            due.is("in", x.of(5, 11), 0);
            due.is("away", x.of(11, 10), 0);
            due.is("ten wait", x.count(1), 10);
        }
        x.mend(5, COMES, 9);
        due.is("a number mended since", x.back(), 1);
        due.is("is as mended", x.of(5, COMES), 9);
        due.is("in as kept", x.of(5, 11), 0);
        Due.law(x, "-h");
        x.back();
        due.is("a law told since stays", x.tall(0, 0), -150);
        due.is("changes are as they were", x.count(4), 1);
    }

    /** "(all numbers; telling the same number is none)": each of the five, at both ends. */
    private static void changes() {
        int[] least = {100, 0, 1, 0, 0}, greatest = {220, 99, 99, 20, 99}, first = {150, 0, 99, 0, 5};
        for (int what = HEIGHT; what <= PRICE; what++) {
            MiddleOne x = many(2);
            due.is("the same", x.mend(1, what, first[what]), first[what]);
            due.is("is none", x.count(4), 0);
            due.is("so there is none", x.undo(), STATE);
            int changes = 0, was = first[what];
            for (int v : new int[] {least[what], greatest[what], greatest[what], least[what], first[what]}) {
                due.is("what it was", x.mend(1, what, v), was);
                if (v != was) changes++;
                was = v;
                due.is("changes of " + what, x.count(4), changes);
            }
            for (int left = changes - 1; left >= 0; left--) due.is("undone", x.undo(), left);
            due.is("as at first", x.of(1, what), first[what]);
            due.is("no more", x.undo(), STATE);
            for (int left = changes - 1; left >= 0; left--) due.is("done again", x.redo(), left);
            due.is("as at last", x.of(1, what), first[what]);
            due.is("no more again", x.redo(), STATE);
            due.is("the other one is as it was", x.of(0, what), first[what]);
        }
    }

    /** "the latest first"; "DONE AGAIN (as long as no other came behind)": a refused one, and the same number, are none. */
    private static void doneAgain() {
        MiddleOne x = many(2);
        x.mend(0, HEIGHT, 160);
        x.mend(1, HEIGHT, 170);
        x.mend(0, HEELS, 3);
        due.is("heels", x.undo(), 2);
        due.is("then height of 1", x.undo(), 1);
        due.is("it was", x.of(1, HEIGHT), 150);
        due.is("the other's stays", x.of(0, HEIGHT), 160);
        due.is("the same number as it is now", x.mend(1, HEIGHT, 150), 150);
        due.is("a refused one", x.mend(1, HEIGHT, 99), BAD);
        due.is("so it is done again", x.redo(), 1);
        due.is("it is", x.of(1, HEIGHT), 170);
        due.is("and heels", x.redo(), 0);
        due.is("they are", x.of(0, HEELS), 3);
        x.undo();
        due.is("another of the same number", x.mend(0, HEELS, 4), 0);
        due.is("none is done again", x.redo(), STATE);
        due.is("heels stay", x.of(0, HEELS), 4);
        x.undo();
        due.is("the very same again by telling", x.mend(0, HEELS, 4), 0);
        due.is("that is another, too", x.redo(), STATE);
        due.is("three", x.count(4), 3);
    }

    /** "deeds are none": whatever is no mend() neither is a change nor ends what may be done again. */
    private static void noChanges() {
        MiddleOne x = many(3);
        x.mend(0, HEIGHT, 160);
        x.mend(0, HEIGHT, 161);
        x.undo();
        x.person(170, 0);
        x.strike();
        x.take(0);
        x.strike();
        x.image();
        x.dawn();
        x.back();
        Due.law(x, "h+1");
        x.feed('h');
        x.body(1);
        x.act(0, 3, 4);
        x.keep(0, 0);
        Due.row(x, 1, 1, 150, 0, 9);
        x.people(1, 0, 1);
        x.allWear(-1);
        x.later(0);
        x.heels(0, 100, 1);
        x.drawn(5, 5, -1);
        x.heeled(2);
        due.is("one may be undone", x.count(4), 1);
        due.is("one is done again", x.redo(), 0);
        due.is("it is", x.of(0, HEIGHT), 161);
        due.is("undone", x.undo(), 1);
        due.is("undone too", x.undo(), 0);
        due.is("it was", x.of(0, HEIGHT), 150);
    }

    /** "40 at most are kept": the 41st ends the first of them. */
    private static void forty() {
        for (int many : new int[] {39, 40, 41, 80, 81}) {
            MiddleOne x = many(1);
            for (int i = 1; i <= many; i++) x.mend(0, HEIGHT, 100 + i);
            int kept = Math.min(40, many);
            due.is("of " + many, x.count(4), kept);
            for (int left = kept - 1; left >= 0; left--) due.is("undone of " + many, x.undo(), left);
            due.is("no more of " + many, x.undo(), STATE);
            due.is("it was before " + many, x.of(0, HEIGHT), many <= 40 ? 150 : 100 + many - 40);
            for (int left = kept - 1; left >= 0; left--) due.is("done again of " + many, x.redo(), left);
            due.is("no more again of " + many, x.redo(), STATE);
            due.is("it is behind " + many, x.of(0, HEIGHT), 100 + many);
        }
        MiddleOne x = many(1);
        for (int i = 1; i <= 40; i++) x.mend(0, HEIGHT, 100 + i);
        for (int i = 0; i < 40; i++) x.undo();
        due.is("another behind forty that were undone", x.mend(0, PRICE, 9), 5);
        due.is("one may be undone", x.count(4), 1);
        due.is("none is done again", x.redo(), STATE);
        due.is("undone", x.undo(), 0);
        due.is("as at first", x.of(0, HEIGHT), 150);
        due.is("as at first, the price", x.of(0, PRICE), 5);
    }

    /** A change, undone or done again, counts in deed at once. */
    private static void changesInDeed() {
        MiddleOne x = many(3);
        x.mend(0, COMES, 5);
        due.is("two wait", x.count(1), 2);
        x.undo();
        due.is("three wait", x.count(1), 3);
        due.is("the middle one", x.strike(), 1);
        x.redo();
        due.is("one waits", x.count(1), 1);
        due.is("it is let in", x.strike(), 2);
        x.mend(2, COMES, 50);
        due.is("who is in stays in", x.of(2, 11), 1);
        due.is("and does not wait", x.of(2, 10), 0);
    }

    public static void main(String[] args) {
        strokesPass();
        beyondADay();
        theLastStroke();
        takenAway();
        dawn();
        theMost();
        image();
        changes();
        doneAgain();
        noChanges();
        forty();
        changesInDeed();
        due.ends();
    }
}
