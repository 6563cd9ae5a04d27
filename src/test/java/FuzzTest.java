import java.util.ArrayList;
import java.util.List;
import java.util.Random;

/** Runs of calls drawn by fixed seeds, on MiddleOne and on the oracle: every answer must be the same. */
public final class FuzzTest {
    private static final Due due = new Due("FuzzTest");
    private static final int[] ODD_ONES = {
        -1, -2, 5, 6, 7, 8, 9, 10, 11, 12, 13, 20, 21, 40, 50, 59, 60, 61, 99, 100, 101, 120, 220, 221, 255, 256, 301, 310, 999, 1000,
        99999, 100000, 1 << 11, 1 << 12, Integer.MAX_VALUE, Integer.MAX_VALUE - 1, Integer.MIN_VALUE, Integer.MIN_VALUE + 1};
    private static final String[] LAWS = {
        "h", "e", "-h", "w", "h+e", "h-w*4", "n", "k", "!h", "h*e%7+k", "s>2?0-h;h", "n>3?h;-h", "n=3&w>1?k*100;e>5|k=2?-h;h+e",
        "w>3?1000-k", "(h+e)*(n-s)%(k+2)", "--h", "!(h>170)", "h/(e-5)", "s%3=0?-h;h", "9999*9999*9999*h", "(n%4<2)*h-k"};
    private static final String LETTERS = "hewsknhewskn0123456789+-*/%<=>&|!();?";

    private final Random random;
    private final MiddleOne x = new MiddleOne();
    private final Oracle o = new Oracle();
    private final List<String> calls = new ArrayList<>();
    private final int mostPeople;
    private final boolean dear;
    private int left = 512;

    private FuzzTest(long seed, int mostPeople, boolean dear) {
        random = new Random(seed);
        this.mostPeople = mostPeople;
        this.dear = dear;
    }

    private int below(int n) {
        return random.nextInt(n);
    }

    /** Mostly from the range, now and then any number. */
    private int number(int from, int to) {
        int luck = below(24);
        if (luck == 0) return ODD_ONES[below(ODD_ONES.length)];
        if (luck == 1) return below(2) == 0 ? from - 1 : to + 1;
        if (luck == 2) return below(2) == 0 ? from : to;
        return from + below(Math.max(1, to - from + 1));
    }

    private int one() {
        return number(0, Math.max(0, o.people.size() - 1));
    }

    private int oneOrAll() {
        return below(3) == 0 ? -1 : one();
    }

    private int strokes() {
        return below(3) == 0 ? number(0, 12) : number(0, 100);
    }

    private void same(String call, long got, long want) {
        left--;
        calls.add(call + " = " + want);
        if (got != want) {
            for (String c : calls) System.out.println("    " + c);
        }
        due.is(call, got, want);
        if (got != want) System.exit(1);
    }

    private void feeds(String text) {
        for (int i = 0; i < text.length() && left > 0; i++) {
            int c = text.charAt(i);
            same("feed(" + c + ")", x.feed(c), o.feed(c));
        }
    }

    private void laws() {
        String text = LAWS[below(LAWS.length)];
        int luck = below(5);
        if (luck == 0) text += ";" + LAWS[below(LAWS.length)];
        if (luck == 1) {
            StringBuilder b = new StringBuilder();
            for (int i = below(14); i >= 0; i--) b.append(LETTERS.charAt(below(LETTERS.length())));
            text = b.toString();
        }
        if (luck == 2) {
            StringBuilder b = new StringBuilder(text);
            b.setCharAt(below(b.length()), LETTERS.charAt(below(LETTERS.length())));
            text = b.toString();
        }
        feeds(text);
        if (below(40) == 0) {
            int c = number(0, 255);
            same("feed(" + c + ")", x.feed(c), o.feed(c));
        }
        same("law() of " + o.tape, x.law(), o.law());
    }

    private void comes() {
        if (o.people.size() >= mostPeople) return;
        int h = below(3) == 0 ? number(165, 170) : number(100, 220);
        int c = below(4) != 0 ? number(0, 6) : number(0, 99);
        same("person(" + h + ", " + c + ")", x.person(h, c), o.person(h, c));
    }

    private void comeFromRow() {
        if (o.people.size() + 4 > mostPeople && mostPeople < 12) return;
        int shelf = number(0, 5), n = below(15);
        same("row(" + shelf + ", 1, " + n + ")", x.row(shelf, 1, n), o.row(shelf, 1, n));
        for (int i = 0; i < n && left > 3; i++) {
            long v = i % 3 == 0 ? number(100, 220) : i % 3 == 1 ? number(0, 8) : number(1, 99);
            same("put(" + shelf + ", " + i + ", " + v + ")", x.put(shelf, i, v), o.put(shelf, i, v));
        }
        int i = below(3) == 0 ? number(0, 4) : 0, many = number(1, 12);
        same("people(" + shelf + ", " + i + ", " + many + ")", x.people(shelf, i, many), o.people(shelf, i, many));
    }

    private void mends() {
        int p = one(), what = number(0, 4);
        int[] from = {100, 0, 1, 0, 0}, to = {220, 9, 20, 20, 12};
        int v = what >= 0 && what < 5 ? number(from[what], to[what]) : number(0, 99);
        same("mend(" + p + ", " + what + ", " + v + ")", x.mend(p, what, v), o.mend(p, what, v));
    }

    private void asksOfPeople() {
        int p = one(), what = below(2) == 0 ? 10 + below(2) : number(0, 12);
        same("of(" + p + ", " + what + ")", x.of(p, what), o.of(p, what));
        int sn = number(0, 99999);
        same("tall(" + p + ", " + sn + ")", x.tall(p, sn), o.tall(p, sn));
    }

    private void asksOfDays() {
        int p = one(), n = strokes(), what = number(0, 2), part = number(0, 1);
        switch (below(4)) {
            case 0: same("enters(" + p + ", " + n + ")", x.enters(p, n), o.enters(p, n)); break;
            case 1: same("stroke(" + n + ", " + part + ")", x.stroke(n, part), o.stroke(n, part)); break;
            case 2: same("day(" + n + ", " + what + ")", x.day(n, what), o.day(n, what)); break;
            default: same("mean(" + n + ", " + part + ", " + what + ")", x.mean(n, part, what), o.mean(n, part, what));
        }
    }

    private void asksForWays() {
        int p = one(), what = number(0, 1), n = strokes();
        int sb = below(12) == 0 ? number(0, 301) : 10 * below(8) + below(2);
        int s = below(2) == 0 ? below(8) : number(0, 99);
        int luck = below(dear ? 8 : 7);
        if (luck == 0) same("sent(" + p + ", " + sb + ", " + what + ")", x.sent(p, sb, what), o.sent(p, sb, what));
        if (luck == 1) same("brought(" + p + ", " + s + ", " + what + ")", x.brought(p, s, what), o.brought(p, s, what));
        if (luck == 2) same("heels(" + p + ", " + n + ", 0)", x.heels(p, n, 0), o.heels(p, n, 0));
        if (luck == 3) same("heels(" + p + ", " + n + ", 1)", x.heels(p, n, 1), o.heels(p, n, 1));
        if (luck == 4) {
            int w = number(0, 2);
            same("heels(" + p + ", " + n + ", " + w + ")", x.heels(p, n, w), o.heels(p, n, w));
        }
        if (luck == 5) same("later(" + p + ")", x.later(p), o.later(p));
        int q = oneOrAll();
        if (luck == 7) same("allWear(" + q + ")", x.allWear(q), o.allWear(q));
    }

    private void asksOfGates() {
        int p = one(), q = oneOrAll(), n = strokes(), what = number(0, 1);
        int set = number(0, (1 << o.people.size()) - 1);
        switch (below(5)) {
            case 0: same("gates(" + set + ", " + q + ")", x.gates(set, q), o.gates(set, q)); break;
            case 1: same("where(" + p + ")", x.where(p), o.where(p)); break;
            case 2: same("bestSet(" + n + ", " + what + ")", x.bestSet(n, what), o.bestSet(n, what)); break;
            case 3: same("atLast()", x.atLast(), o.atLast()); break;
            default: same("rule(" + n + ")", x.rule(n), o.rule(n));
        }
    }

    /** A row that is what was let in, or nearly so. */
    private void seen() {
        int shelf = number(0, 5), n = below(7);
        same("row(" + shelf + ", 0, " + n + ")", x.row(shelf, 0, n), o.row(shelf, 0, n));
        for (int s = 0; s < n && left > 6; s++) {
            int who = o.stroke(s, 0);
            long v = below(14) == 0 ? number(-2, 11) : who == Oracle.NOT ? -1 : who;
            same("put(" + shelf + ", " + s + ", " + v + ")", x.put(shelf, s, v), o.put(shelf, s, v));
        }
        asksOfSeen(shelf);
    }

    private void asksOfSeen(int shelf) {
        int what = number(0, 1);
        same("judge(" + shelf + ")", x.judge(shelf), o.judge(shelf));
        same("with(" + shelf + ", 0)", x.with(shelf, 0), o.with(shelf, 0));
        same("with(" + shelf + ", " + what + ")", x.with(shelf, what), o.with(shelf, what));
        same("heeled(" + shelf + ")", x.heeled(shelf), o.heeled(shelf));
    }

    private void draws() {
        int seed = below(2) == 0 ? random.nextInt() : number(-3, 99), n = number(1, 20), q = oneOrAll();
        same("drawn(" + seed + ", " + n + ", " + q + ")", x.drawn(seed, n, q), o.drawn(seed, n, q));
    }

    private void deeds() {
        int luck = below(30), what = number(0, 5), p = one();
        if (luck < 14) same("strike()", x.strike(), o.strike());
        else if (luck < 18) same("take(" + p + ")", x.take(p), o.take(p));
        else if (luck < 19) same("dawn()", x.dawn(), o.dawn());
        else if (luck < 23) same("led(" + what + ")", x.led(what), o.led(what));
        else if (luck < 24) same("image()", x.image(), o.image());
        else if (luck < 25) same("back()", x.back(), o.back());
        else if (luck < 28) same("undo()", x.undo(), o.undo());
        else same("redo()", x.redo(), o.redo());
    }

    private void acts() {
        int kind = number(0, 7), b = number(0, Math.max(0, o.bodies.size() - 1)), a = number(0, 3), i = number(0, 14);
        int arg = below(3) == 0 ? random.nextInt() : number(-9, 9);
        int luck = below(6);
        if (luck == 0) same("body(" + kind + ")", x.body(kind), o.body(kind));
        else if (luck < 4) same("act(" + b + ", " + a + ", " + arg + ")", x.act(b, a, arg), o.act(b, a, arg));
        else same("trace(" + i + ")", x.trace(i), o.trace(i));
    }

    private void shelves() {
        int shelf = number(0, 5), other = number(0, 5), i = number(0, 9), j = number(0, 9), n = number(0, 9);
        int sort = number(0, 4), b = number(-1, o.bodies.size() - 1), k = number(0, 7);
        long v = below(3) == 0 ? random.nextLong() : number(-300, 300);
        int size = below(8) == 0 ? number(0, 60) : number(0, 12);
        switch (below(12)) {
            case 0: same("keep(" + shelf + ", " + b + ")", x.keep(shelf, b), o.keep(shelf, b)); break;
            case 1: case 2: same("row(" + shelf + ", " + sort + ", " + size + ")", x.row(shelf, sort, size), o.row(shelf, sort, size)); break;
            case 3: case 4: case 5: same("put(" + shelf + ", " + i + ", " + v + ")", x.put(shelf, i, v), o.put(shelf, i, v)); break;
            case 6: case 7: same("element(" + shelf + ", " + i + ")", x.element(shelf, i), o.element(shelf, i)); break;
            case 8: case 9: case 10:
                same("shift(" + shelf + ", " + i + ", " + other + ", " + j + ", " + n + ")", x.shift(shelf, i, other, j, n), o.shift(shelf, i, other, j, n));
                break;
            default: same("taken(" + shelf + ", " + k + ")", x.taken(shelf, k), o.taken(shelf, k));
        }
    }

    private void runs() {
        while (left > 20) {
            int luck = below(40);
            if (luck < 3) comes();
            else if (luck < 4) comeFromRow();
            else if (luck < 8) mends();
            else if (luck < 9) laws();
            else if (luck < 11) asksOfPeople();
            else if (luck < 15) asksOfDays();
            else if (luck < 18) asksForWays();
            else if (luck < 21) asksOfGates();
            else if (luck < 22) seen();
            else if (luck < 23) draws();
            else if (luck < 29) deeds();
            else if (luck < 33) acts();
            else if (luck < 38) shelves();
            else if (luck < 39) asksOfSeen(number(0, 5));
            int what = number(0, 6);
            if (luck == 39) same("count(" + what + ")", x.count(what), o.count(what));
        }
    }

    public static void main(String[] args) {
        int many = args.length > 0 ? Integer.parseInt(args[0]) : 150;
        long from = args.length > 1 ? Long.parseLong(args[1]) : 1;
        for (int run = 0; run < many; run++) new FuzzTest(from + run, 3 + run % 5, true).runs();
        for (int run = 0; run < many / 5; run++) new FuzzTest(from + 100000 + run, 12, run % 6 == 0).runs();
        due.ends();
    }
}
