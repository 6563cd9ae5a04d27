import java.util.ArrayList;
import java.util.Arrays;
import java.util.List;
import java.util.function.ToLongFunction;

/**
 * "Answers, of several the one named first .. What is answered so changes nothing": every refused call of every
 * promise, with its due answer; and behind it the object tells, and does, the same as a twin that was not called.
 */
public final class RefusedTest {
    private static final Due due = new Due("RefusedTest");
    private static final int BAD = -1, NOT = -2, FULL = -3, STATE = -5, VOID = -2000000000;
    private static final int NOTHING = -11, KIND = -12, PLACE = -13, SIZE = -14;
    private static final int MOST = Integer.MAX_VALUE, LEAST = Integer.MIN_VALUE;
    private static final long LEAST_LONG = Long.MIN_VALUE;
    private static final int BYTES = 0, SHORTS = 1, LONGS = 3;

    private static int crowd = 0;
    private static long[] untouched = null;

    /** Four people, or nine, or twelve; changes to undo and to do again; a law, a tape, deeds, an image, an act, all kinds of shelves. */
    private static MiddleOne used(int people) {
        MiddleOne x = new MiddleOne();
        for (int p = 0; p < people; p++) x.person(150 + 7 * p % 40, p % 3);
        x.mend(0, 3, 4);
        x.mend(1, 0, 171);
        x.mend(2, 4, 9);
        x.mend(0, 2, 40);
        x.undo();
        x.undo();
        Due.law(x, "k=2?h-w*9;h*2+e+s-n");
        x.feed('h');
        x.feed('?');
        x.strike();
        due.is("one is taken away", x.take(3), 1);
        x.image();
        x.strike();
        x.body(7);
        x.body(3);
        x.act(0, 3, 11);
        Due.row(x, 0, BYTES, 5, -1, 3);
        Due.row(x, 1, SHORTS, 150, 2, 9);
        Due.row(x, 2, LONGS, 7, 8, 9);
        x.keep(3, 1);
        x.row(4, BYTES, 0);
        return x;
    }

    private static void asksPeople(MiddleOne x, List<Long> told) {
        for (int p = 0; p < crowd && p < 5; p++) {
            for (int what = 0; what < 5; what++) told.add((long) x.of(p, what));
            told.add((long) x.of(p, 10));
            told.add((long) x.of(p, 11));
        }
    }

    /** All that is told without a change; then the deeds that show the rest: changes, tape, law, image, the next numbers. */
    private static long[] probe(MiddleOne x) {
        List<Long> told = new ArrayList<>();
        for (int what = 0; what < 7; what++) told.add((long) x.count(what));
        for (int what = 0; what < 6; what++) told.add((long) x.led(what));
        asksPeople(x, told);
        for (int p = 0; p < 4; p++) told.add((long) x.tall(p, 1234));
        for (int p = 0; p < 4; p++) told.add((long) x.enters(p, 100));
        for (int shelf = 0; shelf < 6; shelf++) {
            told.add((long) x.taken(shelf, 0));
            told.add((long) x.judge(shelf));
            for (int i = 0; i < 4; i++) told.add(x.element(shelf, i));
        }
        for (int i = 0; i < 15; i++) told.add((long) x.trace(i));
        for (int times = 0; times < 3; times++) told.add((long) x.redo());
        asksPeople(x, told);
        for (int times = 0; times < 5; times++) told.add((long) x.undo());
        asksPeople(x, told);
        told.add((long) x.law());
        for (int p = 0; p < 4; p++) told.add((long) x.tall(p, 5678));
        for (int times = 0; times < 4; times++) told.add((long) x.strike());
        for (int what = 0; what < 6; what++) told.add((long) x.led(what));
        told.add((long) x.back());
        for (int what = 0; what < 6; what++) told.add((long) x.led(what));
        asksPeople(x, told);
        told.add((long) x.dawn());
        asksPeople(x, told);
        told.add((long) x.body(0));
        told.add((long) x.person(150, 0));
        long[] all = new long[told.size()];
        for (int i = 0; i < all.length; i++) all[i] = told.get(i);
        return all;
    }

    private static void with(int people) {
        crowd = people;
        untouched = probe(used(people));
    }

    private static void refused(String call, long want, ToLongFunction<MiddleOne> f) {
        MiddleOne x = used(crowd);
        due.is(call, f.applyAsLong(x), want);
        due.holds(call + " changes nothing", Arrays.equals(probe(x), untouched));
    }

    /** Whoever there is not: 4 to 11 did not come yet, 12 never can. */
    private static final int[] NOBODY = {-1, 4, 11, 12, MOST, LEAST};
    private static final int[] NOBODY_NOR_ALL = {-2, 4, 11, 12, MOST, LEAST};
    private static final int[] NO_SHELF = {-1, 6, MOST, LEAST};
    private static final int[] NO_DAY = {-1, 101, MOST, LEAST};
    private static final int[] NEITHER = {-1, 2, MOST, LEAST};

    private static void people() {
        for (int h : new int[] {99, 221, 0, MOST, LEAST}) refused("person(" + h + ", 0)", BAD, x -> x.person(h, 0));
        for (int c : new int[] {-1, 100, MOST, LEAST}) refused("person(150, " + c + ")", BAD, x -> x.person(150, c));
        for (int s : NO_SHELF) refused("people(" + s + ", 0, 1)", BAD, x -> x.people(s, 0, 1));
        for (int n : new int[] {0, 13, -1, MOST, LEAST}) {
            refused("people(1, 0, " + n + ")", BAD, x -> x.people(1, 0, n));
            refused("people(0, 0, " + n + "), BAD ahead of -12", BAD, x -> x.people(0, 0, n));
        }
        for (int s : new int[] {0, 2, 3, 4}) refused("people(" + s + ", 0, 1)", KIND, x -> x.people(s, 0, 1));
        refused("people(5, 0, 1): the row is missing", 0, x -> x.people(5, 0, 1));
        for (int i : new int[] {1, 2, 3, 60, MOST, MOST - 1, -1, -3, LEAST}) refused("people(1, " + i + ", 1)", 0, x -> x.people(1, i, 1));
        for (int p : NOBODY) {
            refused("mend(" + p + ", 0, 150)", BAD, x -> x.mend(p, 0, 150));
            refused("of(" + p + ", 0)", BAD, x -> x.of(p, 0));
            refused("of(" + p + ", 10)", BAD, x -> x.of(p, 10));
            refused("of(" + p + ", 11)", BAD, x -> x.of(p, 11));
            refused("tall(" + p + ", 0)", VOID, x -> x.tall(p, 0));
        }
        for (int w : new int[] {-1, 5, 10, 11, MOST, LEAST}) refused("mend(0, " + w + ", 5)", BAD, x -> x.mend(0, w, 5));
        int[][] beyond = {{99, 221}, {-1, 100}, {0, 100}, {-1, 21}, {-1, 100}};
        for (int w = 0; w < 5; w++) {
            for (int v : new int[] {beyond[w][0], beyond[w][1], MOST, LEAST}) {
                int what = w;
                refused("mend(0, " + w + ", " + v + ")", BAD, x -> x.mend(0, what, v));
            }
        }
        for (int w : new int[] {-1, 5, 9, 12, MOST, LEAST}) refused("of(0, " + w + ")", BAD, x -> x.of(0, w));
        for (int b : new int[] {-1, 256, MOST, LEAST}) refused("feed(" + b + ")", BAD, x -> x.feed(b));
        for (int sn : new int[] {-1, 100000, -100, MOST, LEAST}) refused("tall(0, " + sn + ")", VOID, x -> x.tall(0, sn));
    }

    private static void peopleAreFull() {
        with(12);
        refused("person(150, 0), the thirteenth", FULL, x -> x.person(150, 0));
        refused("person(99, 0), BAD ahead of FULL", BAD, x -> x.person(99, 0));
        refused("people(1, 0, 1), since they are full", 0, x -> x.people(1, 0, 1));
        refused("bestSet(1, 0), twelve", STATE, x -> x.bestSet(1, 0));
        refused("enters(12, 1)", BAD, x -> x.enters(12, 1));
        refused("gates(4096, -1)", BAD, x -> x.gates(4096, -1));
        with(4);
    }

    private static void days() {
        for (int p : NOBODY) {
            refused("enters(" + p + ", 5)", BAD, x -> x.enters(p, 5));
            refused("sent(" + p + ", 0, 0)", BAD, x -> x.sent(p, 0, 0));
            refused("brought(" + p + ", 0, 0)", BAD, x -> x.brought(p, 0, 0));
            refused("heels(" + p + ", 5, 0)", BAD, x -> x.heels(p, 5, 0));
            refused("later(" + p + ")", BAD, x -> x.later(p));
        }
        for (int p : NOBODY_NOR_ALL) refused("allWear(" + p + ")", BAD, x -> x.allWear(p));
        for (int n : NO_DAY) {
            refused("enters(0, " + n + ")", BAD, x -> x.enters(0, n));
            refused("day(" + n + ", 0)", BAD, x -> x.day(n, 0));
            refused("mean(" + n + ", 0, 0)", LEAST_LONG, x -> x.mean(n, 0, 0));
            refused("heels(0, " + n + ", 0)", BAD, x -> x.heels(0, n, 0));
        }
        for (int s : new int[] {-1, 100, MOST, LEAST}) {
            refused("stroke(" + s + ", 0)", BAD, x -> x.stroke(s, 0));
            refused("brought(0, " + s + ", 0)", BAD, x -> x.brought(0, s, 0));
        }
        for (int w : NEITHER) {
            refused("stroke(0, " + w + ")", BAD, x -> x.stroke(0, w));
            refused("mean(5, " + w + ", 0)", LEAST_LONG, x -> x.mean(5, w, 0));
            refused("mean(5, 0, " + w + ")", LEAST_LONG, x -> x.mean(5, 0, w));
            refused("mean(0, 0, " + w + "), BAD ahead of NOT", LEAST_LONG, x -> x.mean(0, 0, w));
            refused("sent(0, 0, " + w + ")", BAD, x -> x.sent(0, 0, w));
            refused("brought(0, 0, " + w + ")", BAD, x -> x.brought(0, 0, w));
        }
        for (int w : new int[] {-1, 3, MOST, LEAST}) {
            refused("day(5, " + w + ")", BAD, x -> x.day(5, w));
            refused("heels(0, 5, " + w + ")", BAD, x -> x.heels(0, 5, w));
        }
        for (int sb : new int[] {-1, -10, 2, 9, 19, 302, 309, 310, 311, MOST, LEAST}) refused("sent(0, " + sb + ", 0)", BAD, x -> x.sent(0, sb, 0));
    }

    private static void daysThatAnswerNot() {
        refused("enters(0, 0)", NOT, x -> x.enters(0, 0));
        refused("stroke(0, 0), two wait", NOT, x -> x.stroke(0, 0));
        refused("mean(0, 0, 0)", NOT, x -> x.mean(0, 0, 0));
        refused("mean(0, 1, 1)", NOT, x -> x.mean(0, 1, 1));
        refused("sent(1, 0, 0), it comes at 1", NOT, x -> x.sent(1, 0, 0));
        refused("brought(1, 0, 0), it comes at 1", NOT, x -> x.brought(1, 0, 0));
        refused("brought(1, 0, 1), it comes at 1", NOT, x -> x.brought(1, 0, 1));
        refused("heels(0, 0, 0)", NOT, x -> x.heels(0, 0, 0));
        refused("heels(0, 0, 1)", NOT, x -> x.heels(0, 0, 1));
        refused("heels(0, 0, 2)", 0, x -> x.heels(0, 0, 2));
        refused("rule(0)", NOT, x -> x.rule(0));
    }

    private static void gatesAndSeen() {
        for (int set : new int[] {-1, 16, 31, 4096, MOST, LEAST}) refused("gates(" + set + ", -1)", BAD, x -> x.gates(set, -1));
        for (int p : NOBODY_NOR_ALL) {
            refused("gates(0, " + p + ")", BAD, x -> x.gates(0, p));
            refused("drawn(1, 1, " + p + ")", BAD, x -> x.drawn(1, 1, p));
        }
        for (int p : NOBODY) refused("where(" + p + ")", BAD, x -> x.where(p));
        for (int n : NO_DAY) {
            refused("bestSet(" + n + ", 0)", BAD, x -> x.bestSet(n, 0));
            refused("rule(" + n + ")", BAD, x -> x.rule(n));
        }
        for (int w : NEITHER) {
            refused("bestSet(5, " + w + ")", BAD, x -> x.bestSet(5, w));
            refused("with(0, " + w + ")", BAD, x -> x.with(0, w));
            refused("with(5, " + w + "), BAD ahead of -11", BAD, x -> x.with(5, w));
            refused("with(1, " + w + "), BAD ahead of -12", BAD, x -> x.with(1, w));
        }
        for (int n : new int[] {0, 21, -1, MOST, LEAST}) refused("drawn(1, " + n + ", -1)", BAD, x -> x.drawn(1, n, -1));
        for (int s : NO_SHELF) seenRefused(s, BAD);
        seenRefused(5, NOTHING);
        for (int s = 1; s < 4; s++) seenRefused(s, KIND);
        refused("judge(0)", 0, x -> x.judge(0));
        refused("with(0, 0), none fits", 0, x -> x.with(0, 0));
        refused("with(0, 1), none fits", NOT, x -> x.with(0, 1));
        refused("heeled(0), none fits", NOT, x -> x.heeled(0));
        refused("judge(4), nothing is told", NOT, x -> x.judge(4));
    }

    private static void seenRefused(int shelf, int want) {
        refused("judge(" + shelf + ")", want, x -> x.judge(shelf));
        refused("with(" + shelf + ", 0)", want, x -> x.with(shelf, 0));
        refused("with(" + shelf + ", 1)", want, x -> x.with(shelf, 1));
        refused("heeled(" + shelf + ")", want, x -> x.heeled(shelf));
    }

    private static void moreThanEight() {
        with(8);
        due.holds("eight are not too many for bestSet()", used(8).bestSet(1, 1) >= 0);
        due.is("eight are not too many for with()", used(8).with(4, 0), 256);
        due.is("eight are not too many for heeled()", used(8).heeled(4), 0);
        with(9);
        refused("bestSet(5, 0), nine", STATE, x -> x.bestSet(5, 0));
        refused("bestSet(5, 1), nine", STATE, x -> x.bestSet(5, 1));
        refused("bestSet(101, 0), BAD ahead of STATE", BAD, x -> x.bestSet(101, 0));
        refused("bestSet(5, 2), BAD ahead of STATE", BAD, x -> x.bestSet(5, 2));
        refused("with(0, 0), nine", STATE, x -> x.with(0, 0));
        refused("with(0, 1), nine", STATE, x -> x.with(0, 1));
        refused("with(0, 2), BAD ahead of STATE", BAD, x -> x.with(0, 2));
        refused("with(6, 0), BAD ahead of STATE", BAD, x -> x.with(6, 0));
        refused("with(5, 0), -11 ahead of STATE", NOTHING, x -> x.with(5, 0));
        refused("with(1, 0), -12 ahead of STATE", KIND, x -> x.with(1, 0));
        refused("heeled(0), nine", STATE, x -> x.heeled(0));
        refused("heeled(6), BAD ahead of STATE", BAD, x -> x.heeled(6));
        refused("heeled(5), -11 ahead of STATE", NOTHING, x -> x.heeled(5));
        refused("heeled(1), -12 ahead of STATE", KIND, x -> x.heeled(1));
        refused("judge(0) has no bound of eight", 0, x -> x.judge(0));
        with(4);
    }

    private static void deeds() {
        for (int p : NOBODY) refused("take(" + p + ")", BAD, x -> x.take(p));
        refused("take(3), it is away", STATE, x -> x.take(3));
        for (int w : new int[] {-1, 6, MOST, LEAST}) refused("led(" + w + ")", BAD, x -> x.led(w));
        for (int w : new int[] {-1, 7, MOST, LEAST}) refused("count(" + w + ")", BAD, x -> x.count(w));
    }

    /** No image, no change, a full tape, fifty bodies: each on objects of their own, asked for what could have changed. */
    private static void statesAndFulls() {
        MiddleOne x = Due.crowd(150, 160, 170);
        x.strike();
        due.is("take(1), it is in", x.take(1), STATE);
        due.is("nobody was taken away", x.led(2), 0);
        due.is("back() without an image", x.back(), STATE);
        due.is("NOW is as it was", x.led(5), 1);
        due.is("undo() without a change", x.undo(), STATE);
        due.is("redo() without a change", x.redo(), STATE);
        due.is("undo() still has none", x.count(4), 0);
        for (int i = 0; i < 120; i++) x.feed(i % 2 == 0 ? '1' : '+');
        due.is("feed() of a full tape", x.feed('1'), FULL);
        due.is("feed() of no byte to a full tape", x.feed(256), BAD);
        due.is("120 bytes", x.count(3), 120);
        due.is("the last one is as it was: it ends too early", x.law(), -220);
        for (int b = 0; b < 50; b++) x.body(2);
        due.is("body(), the fifty-first", x.body(0), FULL);
        due.is("body(8), BAD ahead of FULL", x.body(8), BAD);
        due.is("fifty bodies", x.count(5), 50);
        x.keep(0, 49);
        due.is("the last one is as it was", x.taken(0, 0), 2);
    }

    private static void acts() {
        for (int k : new int[] {-1, 8, MOST, LEAST}) {
            refused("body(" + k + ")", BAD, x -> x.body(k));
            refused("taken(3, " + k + ")", BAD, x -> x.taken(3, k));
            refused("taken(5, " + k + "), BAD ahead of -11", BAD, x -> x.taken(5, k));
        }
        for (int i : new int[] {-1, 14, 24, MOST, LEAST}) refused("trace(" + i + ")", BAD, x -> x.trace(i));
        for (int s : NO_SHELF) {
            refused("keep(" + s + ", 0)", BAD, x -> x.keep(s, 0));
            refused("keep(" + s + ", -1)", BAD, x -> x.keep(s, -1));
            refused("taken(" + s + ", 0)", BAD, x -> x.taken(s, 0));
            refused("row(" + s + ", 0, 1)", BAD, x -> x.row(s, 0, 1));
            refused("row(" + s + ", 0, -1), BAD ahead of -14", BAD, x -> x.row(s, 0, -1));
            refused("put(" + s + ", 0, 1)", BAD, x -> x.put(s, 0, 1));
            refused("element(" + s + ", 0)", LEAST_LONG, x -> x.element(s, 0));
            refused("shift(" + s + ", 0, 0, 0, 1)", BAD, x -> x.shift(s, 0, 0, 0, 1));
            refused("shift(0, 0, " + s + ", 0, 1)", BAD, x -> x.shift(0, 0, s, 0, 1));
            refused("shift(5, 0, " + s + ", 0, 1), BAD ahead of -11", BAD, x -> x.shift(5, 0, s, 0, 1));
        }
        for (int b : new int[] {-2, 2, 49, 50, MOST, LEAST}) refused("keep(0, " + b + ")", BAD, x -> x.keep(0, b));
        refused("taken(5, 0)", NOTHING, x -> x.taken(5, 0));
        refused("taken(0, 0), a row", KIND, x -> x.taken(0, 0));
        refused("taken(3, 1), MIDDLE is not under TALL", KIND, x -> x.taken(3, 1));
        refused("taken(3, 5), nor under GATE", KIND, x -> x.taken(3, 5));
    }

    private static void rows() {
        for (int s : new int[] {-1, 5, MOST, LEAST}) {
            refused("row(0, " + s + ", 1)", BAD, x -> x.row(0, s, 1));
            refused("row(0, " + s + ", -1), BAD ahead of -14", BAD, x -> x.row(0, s, -1));
        }
        for (int n : new int[] {61, MOST}) refused("row(0, 0, " + n + ")", BAD, x -> x.row(0, 0, n));
        for (int n : new int[] {-1, LEAST}) refused("row(0, 0, " + n + ")", SIZE, x -> x.row(0, 0, n));
        for (int i : new int[] {-1, 3, 60, MOST, LEAST}) {
            refused("put(2, " + i + ", 1)", PLACE, x -> x.put(2, i, 1));
            refused("put(5, " + i + ", 1), -11 ahead of -13", NOTHING, x -> x.put(5, i, 1));
            refused("put(3, " + i + ", 1), -12 ahead of -13", KIND, x -> x.put(3, i, 1));
            for (int s = 2; s < 6; s++) {
                int shelf = s;
                refused("element(" + s + ", " + i + ")", LEAST_LONG, x -> x.element(shelf, i));
            }
        }
        refused("put(4, 0, 1), an empty row", PLACE, x -> x.put(4, 0, 1));
        refused("shift(0, 0, 5, 0, 1)", NOTHING, x -> x.shift(0, 0, 5, 0, 1));
        refused("shift(5, 0, 0, 0, 1)", NOTHING, x -> x.shift(5, 0, 0, 0, 1));
        refused("shift(5, 0, 5, 0, 0)", NOTHING, x -> x.shift(5, 0, 5, 0, 0));
        refused("shift(3, 0, 5, 0, 1), -11 ahead of -12", NOTHING, x -> x.shift(3, 0, 5, 0, 1));
        refused("shift(5, -1, 2, 9, 1), -11 ahead of -13", NOTHING, x -> x.shift(5, -1, 2, 9, 1));
        refused("shift(3, 0, 2, 0, 1), a stroke here", KIND, x -> x.shift(3, 0, 2, 0, 1));
        refused("shift(2, 0, 3, 0, 1), a stroke there", KIND, x -> x.shift(2, 0, 3, 0, 1));
        refused("shift(3, 0, 3, 0, 0), strokes", KIND, x -> x.shift(3, 0, 3, 0, 0));
        refused("shift(0, 0, 1, 0, 1), unlike sorts", KIND, x -> x.shift(0, 0, 1, 0, 1));
        refused("shift(0, 0, 2, 0, 0), unlike sorts, none", KIND, x -> x.shift(0, 0, 2, 0, 0));
        refused("shift(0, -1, 1, 9, 1), -12 ahead of -13", KIND, x -> x.shift(0, -1, 1, 9, 1));
        int[][] spans = {{-1, 0, 1}, {0, -1, 1}, {0, 0, -1}, {0, 0, 4}, {1, 0, 3}, {0, 1, 3}, {3, 0, 1}, {0, 3, 1}, {4, 0, 0}, {0, 4, 0},
            {MOST, 0, 1}, {0, MOST, 1}, {0, 0, MOST}, {MOST, 0, MOST}, {LEAST, 0, 1}, {0, LEAST, 1}, {0, 0, LEAST}, {-1, 0, 0}, {0, -1, 0}};
        for (int[] w : spans) {
            refused("shift(2, " + w[0] + ", 2, " + w[1] + ", " + w[2] + ")", PLACE, x -> x.shift(2, w[0], 2, w[1], w[2]));
        }
    }

    /** What only asks changes nothing either, whatever it answers: neither numbers that a day in thought alters, nor the law. */
    private static void asking() {
        for (int p = 0; p < 4; p++) {
            int q = p;
            asks("enters", x -> x.enters(q, 100));
            asks("sent", x -> x.sent(q, 31, q % 2));
            asks("brought", x -> x.brought(q, q, 1));
            for (int w = 0; w < 3; w++) {
                int what = w;
                asks("heels", x -> x.heels(q, 50, what));
            }
            asks("later", x -> x.later(q));
            asks("allWear", x -> x.allWear(q));
            asks("gates", x -> x.gates(5, q));
            asks("where", x -> x.where(q));
            asks("drawn", x -> x.drawn(77, 20, q));
            asks("tall", x -> x.tall(q, 99999));
        }
        asks("stroke", x -> x.stroke(3, 0));
        asks("day", x -> x.day(100, 1));
        asks("mean", x -> x.mean(100, 1, 0));
        asks("bestSet", x -> x.bestSet(100, 1));
        asks("atLast", x -> x.atLast());
        asks("rule", x -> x.rule(100));
        asks("judge", x -> x.judge(0));
        asks("with", x -> x.with(4, 1));
        asks("heeled", x -> x.heeled(4));
        asks("led", x -> x.led(4));
        asks("trace", x -> x.trace(3));
        asks("element", x -> x.element(2, 2));
        asks("taken", x -> x.taken(3, 2));
        asks("count", x -> x.count(6));
    }

    private static void asks(String call, ToLongFunction<MiddleOne> f) {
        MiddleOne x = used(crowd);
        long first = f.applyAsLong(x);
        due.is(call + " asked once more", f.applyAsLong(x), first);
        due.holds(call + " changes nothing", Arrays.equals(probe(x), untouched));
    }

    /** "All memory is the class's own": what one object is told, another knows nothing of. */
    private static void twoObjects() {
        MiddleOne x = used(crowd);
        MiddleOne other = used(12);
        probe(other);
        for (int shelf = 0; shelf < 6; shelf++) other.row(shelf, 0, 60);
        Due.law(other, "k*k");
        due.holds("one object as it was, while another was used", Arrays.equals(probe(x), untouched));
        due.is("a new object beside them", new MiddleOne().count(0), 0);
    }

    public static void main(String[] args) {
        with(4);
        people();
        peopleAreFull();
        days();
        daysThatAnswerNot();
        gatesAndSeen();
        moreThanEight();
        deeds();
        statesAndFulls();
        acts();
        rows();
        asking();
        twoObjects();
        due.ends();
    }
}
