/** Promises 27 to 34: strike, take, dawn, led, image, back, undo, redo. */
public final class DeedTest {
    private static final Due due = new Due("DeedTest");
    private static final int BAD = MiddleOne.BAD, NOT = MiddleOne.NOT, STATE = MiddleOne.STATE;

    private static void led(MiddleOne x, String when, int... want) {
        for (int what = 0; what < 6; what++) due.is(when + ": led(" + what + ")", x.led(what), want[what]);
    }

    private static void strike() {
        MiddleOne x = Due.crowd(150, 160, 170);
        due.is("the middle one", x.strike(), 1);
        due.is("two are even", x.strike(), NOT);
        led(x, "two strokes", 2, 1, 0, 0, 3, 2);
        due.is("one comes later", x.person(180, 2), 3);
        due.is("in the middle of three", x.strike(), 2);
        due.is("two are even again", x.strike(), NOT);
        x.mend(3, 2, 1);
        due.is("one has gone", x.strike(), 0);
        due.is("nobody is left", x.strike(), NOT);
        led(x, "six strokes", 6, 3, 0, 0, 3, 6);
        due.is("in since", x.of(0, 11), 4);
    }

    /** Of no use within 512 calls, but told: NOW ends at 999. */
    private static void theLastStroke() {
        MiddleOne x = Due.crowd(150);
        x.mend(0, 1, 99);
        for (int s = 0; s < 999; s++) due.is("stroke " + s, x.strike(), s == 99 ? 0 : NOT);
        due.is("NOW is 999", x.led(5), 999);
        due.is("no stroke passes", x.strike(), STATE);
        led(x, "at the last", 999, 1, 0, 0, 1, 999);
    }

    private static void take() {
        MiddleOne x = Due.crowd(150, 160, 170);
        due.is("nobody there", x.take(3), BAD);
        due.is("nobody ahead", x.take(-1), BAD);
        due.is("at 0", x.take(1), 0);
        due.is("it waits no more", x.take(1), STATE);
        due.is("two are even", x.strike(), NOT);
        due.is("at 1", x.take(0), 1);
        due.is("one is left", x.strike(), 2);
        due.is("who is in does not wait", x.take(2), STATE);
        led(x, "two taken", 2, 1, 2, 0, 2, 2);
        x.person(150, 3);
        due.is("not there yet", x.take(3), STATE);
        due.is("nobody waits", x.count(1), 0);
        x.dawn();
        due.is("away till dawn", x.take(1), 0);
    }

    private static void dawn() {
        MiddleOne x = Due.crowd(150, 160, 170);
        due.is("nobody was in", x.dawn(), 0);
        x.strike();
        x.take(0);
        x.strike();
        due.is("two were in", x.dawn(), 2);
        led(x, "a new day", 2, 2, 1, 2, 3, 0);
        due.is("all wait", x.count(1), 3);
        due.is("nobody is in", x.count(2), 0);
        due.is("the same again", x.strike(), 1);
        due.is("in the new day", x.of(1, 11), 0);
        due.is("not in yet", x.of(2, 11), NOT);
    }

    private static void led() {
        MiddleOne x = Due.crowd(150);
        due.is("no what below", x.led(-1), BAD);
        due.is("no what above", x.led(6), BAD);
        x.person(160, 1);
        x.person(160, 1);
        led(x, "nothing yet", 0, 0, 0, 0, 0, 0);
        x.strike();
        led(x, "one waited", 1, 1, 0, 0, 1, 1);
        x.strike();
        led(x, "two waited", 2, 1, 0, 0, 2, 2);
        x.dawn();
        x.strike();
        led(x, "the most stays", 3, 2, 0, 1, 2, 1);
    }

    private static void image() {
        MiddleOne x = Due.crowd(150, 160, 170, 180);
        due.is("no image", x.back(), STATE);
        x.take(3);
        x.strike();
        due.is("kept at 1", x.image(), 1);
        x.strike();
        x.take(0);
        x.person(190, 0);
        x.strike();
        x.take(4);
        x.mend(2, 0, 171);
        x.dawn();
        x.strike();
        due.is("laid back", x.back(), 1);
        led(x, "laid back", 1, 1, 1, 0, 3, 1);
        int[] waits = {1, 0, 1, 0, 1}, in = {NOT, 0, NOT, NOT, NOT};
        for (int p = 0; p < 5; p++) {
            due.is("waits " + p, x.of(p, 10), waits[p]);
            due.is("in " + p, x.of(p, 11), in[p]);
        }
        due.is("numbers are not kept", x.of(2, 0), 171);
        due.is("changes are not kept", x.count(4), 1);
        x.strike();
        due.is("laid back once more", x.back(), 1);
        x.strike();
        due.is("a later image", x.image(), 2);
        x.dawn();
        due.is("the later one", x.back(), 2);
        due.is("in since then", x.count(2), 2);
        due.is("an image of an image", x.image(), 2);
    }

    private static void undo() {
        MiddleOne x = Due.crowd(150, 160);
        due.is("none", x.undo(), STATE);
        due.is("none again", x.redo(), STATE);
        x.mend(0, 0, 151);
        x.mend(0, 0, 151);
        due.is("the same number is no change", x.count(4), 1);
        x.mend(1, 1, 3);
        x.mend(0, 2, 4);
        x.mend(1, 3, 6);
        x.mend(0, 4, 7);
        due.is("five", x.count(4), 5);
        x.mend(0, 4, 100);
        due.is("what is BAD is none", x.count(4), 5);
        for (int left = 4; left >= 0; left--) due.is("undone, left " + left, x.undo(), left);
        due.is("no more", x.undo(), STATE);
        int[][] were = {{0, 0, 150}, {1, 1, 0}, {0, 2, 99}, {1, 3, 0}, {0, 4, 5}};
        for (int[] w : were) due.is("it was", x.of(w[0], w[1]), w[2]);
        for (int left = 4; left >= 0; left--) due.is("done again, left " + left, x.redo(), left);
        due.is("no more again", x.redo(), STATE);
        int[][] are = {{0, 0, 151}, {1, 1, 3}, {0, 2, 4}, {1, 3, 6}, {0, 4, 7}};
        for (int[] a : are) due.is("it is", x.of(a[0], a[1]), a[2]);
    }

    private static void redo() {
        MiddleOne x = Due.crowd(150);
        x.mend(0, 0, 151);
        x.mend(0, 0, 152);
        x.mend(0, 0, 153);
        x.undo();
        due.is("the latest first", x.of(0, 0), 152);
        x.mend(0, 0, 152);
        x.person(150, 0);
        x.strike();
        x.image();
        x.back();
        x.dawn();
        Due.law(x, "h");
        x.mend(0, 0, 99);
        due.is("no change came behind", x.redo(), 0);
        due.is("done again", x.of(0, 0), 153);
        x.undo();
        x.undo();
        due.is("another came behind", x.mend(0, 1, 5), 0);
        due.is("so none is done again", x.redo(), STATE);
        due.is("two may be undone", x.count(4), 2);
        due.is("undone", x.undo(), 1);
        due.is("comes at 0 again", x.of(0, 1), 0);
        due.is("undone too", x.undo(), 0);
        due.is("the first of all", x.of(0, 0), 150);
    }

    private static void fortyAtMost() {
        MiddleOne x = Due.crowd(100);
        for (int i = 1; i <= 45; i++) x.mend(0, 0, 100 + i);
        due.is("forty", x.count(4), 40);
        for (int left = 39; left >= 0; left--) due.is("undone, left " + left, x.undo(), left);
        due.is("no more", x.undo(), STATE);
        due.is("the first five stay", x.of(0, 0), 105);
        for (int left = 39; left >= 0; left--) due.is("done again, left " + left, x.redo(), left);
        due.is("the last of all", x.of(0, 0), 145);
        x.mend(0, 3, 1);
        due.is("forty still", x.count(4), 40);
        due.is("one less", x.undo(), 39);
        MiddleOne y = Due.crowd(100, 100, 100);
        for (int i = 1; i <= 42; i++) y.mend(i % 3, i % 2 * 3, (i % 2 == 0 ? 150 : 0) + i / 3);
        for (int i = 42; i >= 3; i--) {
            y.undo();
            int before = i > 6 ? (i % 2 == 0 ? 150 : 0) + (i - 6) / 3 : i % 2 == 0 ? 100 : 0;
            due.is("undone " + i, y.of(i % 3, i % 2 * 3), before);
        }
        due.is("the first two stay", y.of(2, 0), 150);
        due.is("no more of them", y.undo(), STATE);
        for (int p = 0; p < 3; p++) {
            due.is("height of " + p, y.of(p, 0), p == 2 ? 150 : 100);
            due.is("heels of " + p, y.of(p, 3), 0);
        }
        for (int i = 3; i <= 42; i++) {
            y.redo();
            due.is("done again " + i, y.of(i % 3, i % 2 * 3), (i % 2 == 0 ? 150 : 0) + i / 3);
        }
    }

    public static void main(String[] args) {
        strike();
        theLastStroke();
        take();
        dawn();
        led();
        image();
        undo();
        redo();
        fortyAtMost();
        due.ends();
    }
}
