/** Part 1 of the document, sentence by sentence: the last value that is allowed, the first that is not, empty, full, what wraps. */
public final class EdgesPeopleTest {
    private static final Due due = new Due("EdgesPeopleTest");
    private static final int BAD = -1, NOT = -2, FULL = -3, VOID = -2000000000;
    private static final int SHORTS = 1;

    /** "PEOPLE 0 .. 11": with n of them n - 1 is the last number that every call takes, n the first that none does. */
    private static void numbers() {
        for (int n : new int[] {1, 3, 11, 12}) {
            MiddleOne x = new MiddleOne();
            due.is("nobody: enters(0)", x.enters(0, 1), BAD);
            for (int p = 0; p < n; p++) x.person(150 + p, p);
            takes(x, n - 1, true);
            takes(x, 0, true);
            takes(x, n, false);
            takes(x, -1, false);
            due.is("all of " + n, x.allWear(-1) == BAD ? 1 : 0, 0);
            due.is("all of " + n + " at the first gate", x.gates(0, -1) == BAD ? 1 : 0, 0);
            due.is("all of " + n + " at the second gate", x.gates((1 << n) - 1, -1), n);
            due.is("more than " + n + " at the second gate", x.gates(1 << n, -1), BAD);
            due.is("all of " + n + " drawn", x.drawn(1, 1, -1) == BAD ? 1 : 0, 0);
        }
    }

    private static void takes(MiddleOne x, int p, boolean there) {
        String who = " of number " + p;
        due.is("mend" + who, x.mend(p, 4, 5), there ? 5 : BAD);
        due.is("of" + who, x.of(p, 4), there ? 5 : BAD);
        due.is("tall" + who, x.tall(p, 0), there ? 150 + p : VOID);
        due.is("enters" + who, x.enters(p, 100), there ? p : BAD);
        due.is("sent" + who, x.sent(p, 301, 0), there ? 0 : BAD);
        due.is("brought" + who, x.brought(p, Math.max(p, 0), 0), there ? 0 : BAD);
        due.is("heels" + who, x.heels(p, 100, 0), there ? 0 : BAD);
        due.is("later" + who + " is BAD", x.later(p) == BAD ? 1 : 0, there ? 0 : 1);
        due.is("where" + who, x.where(p), there ? 0 : BAD);
        due.is("take" + who + " is BAD", x.take(p) == BAD ? 1 : 0, there ? 0 : 1);
        x.dawn();
        if (p == -1) return;
        due.is("allWear" + who, x.allWear(p), there ? 0 : BAD);
        due.is("gates" + who, x.gates(0, p), there ? p : BAD);
        due.is("drawn" + who + " is BAD", x.drawn(1, 1, p) == BAD ? 1 : 0, there ? 0 : 1);
    }

    /** "COMES is no more than s, s is less than COMES and STAYS": with two, who are even, nobody ever is let in. */
    private static void waits() {
        int[][] stays = {{0, 1}, {0, 99}, {5, 1}, {5, 3}, {50, 50}, {50, 49}, {98, 1}, {99, 1}, {99, 99}, {1, 98}};
        for (int[] w : stays) {
            MiddleOne x = two(w[0], w[1]);
            for (int s = 0; s < 100; s++) {
                due.is("COMES " + w[0] + ", STAYS " + w[1] + ", at " + s, x.stroke(s, 1), w[0] <= s && s < w[0] + w[1] ? 2 : 0);
            }
            MiddleOne y = two(w[0], w[1]);
            for (int s = 0; s <= 198; s++) {
                int there = w[0] <= s && s < w[0] + w[1] ? 1 : 0;
                due.is("in deed: COMES " + w[0] + ", STAYS " + w[1] + ", at " + s, y.of(0, 10), there);
                y.strike();
            }
        }
    }

    private static MiddleOne two(int comes, int stays) {
        MiddleOne x = new MiddleOne();
        for (int p = 0; p < 2; p++) {
            x.person(150, comes);
            x.mend(p, 2, stays);
        }
        return x;
    }

    /** "and it was not let in ahead". */
    private static void waitsNoMore() {
        MiddleOne x = Due.crowd(150);
        due.is("alone it is let in at once", x.stroke(0, 0), 0);
        due.is("it waited then", x.stroke(0, 1), 1);
        due.is("and waits no more", x.stroke(1, 1), 0);
        due.is("waits in deed", x.of(0, 10), 1);
        x.strike();
        due.is("waits no more in deed", x.of(0, 10), 0);
        due.is("and is there no more", x.count(1), 0);
    }

    /** "are they odd, the one in the middle is let in; even, or none: nobody": from 0 to 12 of them, "of like ones the lesser number". */
    private static void oddOrEven() {
        for (int n = 0; n <= 12; n++) {
            MiddleOne like = new MiddleOne(), apart = new MiddleOne(), deed = new MiddleOne();
            for (int p = 0; p < n; p++) {
                like.person(150, 0);
                apart.person(220 - p, 0);
                deed.person(150, 0);
            }
            int want = n % 2 == 0 ? NOT : n / 2;
            due.is(n + " like ones", like.stroke(0, 0), want);
            due.is(n + ", each less tall than the one ahead", apart.stroke(0, 0), want);
            due.is(n + " wait", like.stroke(0, 1), n);
            due.is(n + " in deed", deed.strike(), want);
        }
    }

    /** "How TALL" may be any int: the least of all is the smallest, the greatest the tallest. */
    private static void tallAsIntsGo() {
        MiddleOne x = Due.crowd(150, 150, 150);
        due.is("a law of the ends of int", Due.law(x, "k=0?-2*1024*1024*1024;k=1?2*1024*1024*1024-1;0"), 1);
        due.is("the least", x.tall(0, 0), Integer.MIN_VALUE);
        due.is("the greatest", x.tall(1, 0), Integer.MAX_VALUE);
        due.is("0 is between them", x.stroke(0, 0), 2);
        due.is("the greatest is the tallest", x.gates(7, 1), 0);
        due.is("then 0", x.gates(7, 2), 1);
        due.is("the least at last", x.gates(7, 0), 2);
        MiddleOne y = Due.crowd(150);
        Due.law(y, "-2000*1000*1000");
        due.is("as tall as VOID is", y.tall(0, 0), VOID);
    }

    /** "THE TAPE (at most 120 bytes)", "a byte (0 .. 255)". */
    private static void tape() {
        MiddleOne x = new MiddleOne();
        x.person(150, 0);
        for (int i = 1; i <= 119; i++) due.is("byte " + i, x.feed(i % 2 == 1 ? '1' : '+'), i);
        due.is("119 bytes are a text", x.law(), 1);
        due.is("sixty ones", x.tall(0, 0), 60);
        due.is("an empty tape", x.count(3), 0);
        due.is("the first byte again", x.feed('-'), 1);
        for (int i = 2; i <= 120; i++) due.is("byte " + i, x.feed(i % 2 == 0 ? '1' : '+'), i);
        due.is("byte 121", x.feed('1'), FULL);
        due.is("120 bytes are a text", x.law(), 1);
        due.is("58 more ones than the first", x.tall(0, 0), 58);
        for (int i = 1; i <= 119; i++) x.feed(i % 2 == 1 ? '1' : '+');
        x.feed('x');
        due.is("a fault at the last byte of all", x.law(), -219);
        for (int i = 1; i <= 120; i++) x.feed(i % 2 == 1 ? '1' : '+');
        due.is("a full tape that ends too early", x.law(), -220);
        for (int letter = 0; letter < 256; letter++) {
            boolean alone = letter >= '0' && letter <= '9' || "hewskn".indexOf(letter) >= 0;
            boolean begins = "(!-".indexOf(letter) >= 0;
            x.feed(letter);
            due.is("the byte " + letter + " alone", x.law(), alone ? 1 : begins ? -101 : -100);
            x.feed('h');
            x.feed(letter);
            boolean goesOn = "|&<=>+-*/%?;".indexOf(letter) >= 0;
            due.is("h and the byte " + letter, x.law(), goesOn ? -102 : -101);
        }
    }

    private static void gives(String text, long want) {
        MiddleOne x = new MiddleOne();
        x.person(200, 0);
        x.person(150, 3);
        x.mend(1, 3, 7);
        due.is("law " + text, Due.law(x, text), 1);
        due.is(text, x.tall(1, 1004), want);
    }

    private static void faulty(String text, int place) {
        MiddleOne x = new MiddleOne();
        x.person(150, 0);
        Due.law(x, "4321");
        due.is("fault of " + text, Due.law(x, text), -100 - place);
        due.is("the law is as it was behind " + text, x.tall(0, 0), 4321);
        due.is("the tape is empty behind " + text, x.count(3), 0);
    }

    /** "a number (1 to 4 digits)". */
    private static void digits() {
        gives("7", 7);
        gives("0", 0);
        gives("9999", 9999);
        gives("0000", 0);
        gives("0009", 9);
        faulty("00000", 4);
        faulty("10000", 4);
        faulty("h+12345", 6);
        faulty("(12345)", 5);
        faulty("1234h", 4);
        faulty("1234(1)", 4);
    }

    /** "At most 6 of ( ! - ahead of an O are open at once." */
    private static void open() {
        for (String sign : new String[] {"!", "-", "("}) {
            String six = sign.repeat(6), close = sign.equals("(") ? ")".repeat(6) : "";
            gives(six + "h" + close, sign.equals("!") ? 1 : 150);
            faulty(six + sign + "h" + close, 6);
            faulty("1;" + six + sign, 8);
            faulty("1?" + six + sign, 8);
            faulty(six + "1" + close + "?" + six + sign, 2 * six.length() + close.length() + 2);
            faulty("1?2;" + six + sign, 10);
            faulty(six, 6);
            gives("1?" + six + "h" + close, sign.equals("!") ? 1 : 150);
            gives("0?1;" + six + "h" + close, sign.equals("!") ? 1 : 150);
            // What is closed is open no more: the second operand has six of its own.
            gives(six + "h" + close + "+" + six + "h" + close, sign.equals("!") ? 2 : 300);
            gives(six + "h" + close + "*" + six + "1" + close, sign.equals("!") ? 1 : 150);
        }
        gives("((((((1)+(2))))))", 3);
        gives("(((((1)+(2))+(3))+(4))+5)", 15);
        gives("(-(-(-h)))", -150);
        gives("(!(!(!h)))", 0);
        faulty("(-(-(-(h))))", 6);
        faulty("(-(-(-!h)))", 6);
        faulty("(-(-(--h)))", 6);
        faulty("((((((1+(", 8);
        faulty("((((((1--", 8);
        faulty("((((((1-1-1-1))))))-(((((((", 26);
        gives("((((((1-1-1-1))))))", -2);
        // A - behind an O is none that is ahead of one.
        gives("9-1-1-1-1-1-1-1-1", 1);
        gives("9--1--1--1--1--1--1--1", 16);
    }

    /** "Ints that wrap; / and % toward 0, by 0 they give 0". */
    private static void ints() {
        String min = "-2*1024*1024*1024", max = "(2*1024*1024*1024-1)";
        gives(min, Integer.MIN_VALUE);
        gives(max, Integer.MAX_VALUE);
        gives(max + "+1", Integer.MIN_VALUE);
        gives(min + "-1", Integer.MAX_VALUE);
        gives(max + "*2", -2);
        gives(max + "*" + max, 1);
        gives("-(" + min + ")", Integer.MIN_VALUE);
        gives(min + "/-1", Integer.MIN_VALUE);
        gives(min + "%-1", 0);
        gives(min + "/0", 0);
        gives(min + "%0", 0);
        gives("0/0", 0);
        gives("0%0", 0);
        gives("h/(e-7)", 0);
        gives("h%(e-7)", 0);
        gives("7/2", 3);
        gives("-7/2", -3);
        gives("7/-2", -3);
        gives("-7/-2", 3);
        gives("1/2", 0);
        gives("-1/2", 0);
        gives("7%2", 1);
        gives("-7%2", -1);
        gives("7%-2", 1);
        gives("-7%-2", -1);
        gives(max + ">" + min, 1);
        gives(min + "<" + max, 1);
        gives(min + ">" + max, 0);
        gives(min + "=" + max + "+1", 1);
    }

    /** "| & < = > ! give 1, 0": whatever is not 0 counts, below 0 too. */
    private static void truths() {
        int[] some = {-9999, -1, 0, 1, 2, 9999};
        for (int a : some) {
            gives("!(" + a + ")", a == 0 ? 1 : 0);
            for (int b : some) {
                gives(a + "|" + b, a != 0 || b != 0 ? 1 : 0);
                gives(a + "&" + b, a != 0 && b != 0 ? 1 : 0);
                gives(a + "<" + b, a < b ? 1 : 0);
                gives(a + "=" + b, a == b ? 1 : 0);
                gives(a + ">" + b, a > b ? 1 : 0);
            }
        }
        gives("5", 5);
        gives("(5)", 5);
        gives("4|0|0", 1);
        gives("4&2&3", 1);
        gives("1&3=3", 1);
    }

    /** "B = S, or S < S, S = S, S > S": one sign alone compares. */
    private static void comparesOnce() {
        for (char a : "<=>".toCharArray()) {
            gives("(1" + a + "1)" + a + "9", (a == '=') ? 0 : a == '<' ? 1 : 0);
            for (char b : "<=>".toCharArray()) {
                faulty("1" + a + "2" + b + "3", 3);
                faulty("h&1" + a + "2+1" + b, 7);
                faulty("(1" + a + "2" + b, 4);
            }
        }
        gives("1<2&2<1", 0);
        gives("1<2|2<1", 1);
        gives("1<2&2>1&2=2", 1);
    }

    /** "The first LINE without a first E, or whose first E is not 0, counts; none: 0." */
    private static void lines() {
        gives("h", 150);
        gives("1?h", 150);
        gives("0?h", 0);
        gives("0?1;0?2;0?3;0?4", 0);
        gives("0?1;0?2;0?3;e", 7);
        gives("0?1;-1?2;3", 2);
        gives("0?1;2;3", 2);
        gives("0;1", 0);
        gives("1?0;5", 0);
        gives("e-7?5;6", 6);
        gives("e-6?5;6", 5);
        // As many lines as a tape holds: sixty, of which the last counts.
        gives("0?1;".repeat(29) + "42", 42);
        StringBuilder sixty = new StringBuilder("7");
        while (sixty.length() < 119) sixty.append(";8");
        gives(sixty.toString(), 7);
        faulty(sixty + ";", 120);
    }

    /** "the place (from 0) of the first byte with which no TEXT goes on; the length, if it ends too early." */
    private static void faults() {
        faulty("", 0);
        String[] early = {"(", "!", "-", "h+", "h-", "h*", "h/", "h%", "h|", "h&", "h<", "h=", "h>", "h?", "h;", "h?h;", "(h", "((h)", "h?(", "-(", "!("};
        for (String text : early) faulty(text, text.length());
        String[] atOnce = {"+", "*", "/", "%", "|", "&", "<", "=", ">", "?", ";", ")", " ", "x", "H", "\n", "\u0000", "\u00ff"};
        for (String text : atOnce) {
            faulty(text, 0);
            faulty(text + "h", 0);
            faulty("(" + text, 1);
            faulty("h+" + text, 2);
            faulty("h;" + text, 2);
            faulty("h?" + text, 2);
        }
        for (String text : new String[] {"h", "1", "(", "!", ")", " ", "x", "\u00ff"}) faulty("e" + text, 1);
        faulty("h)", 1);
        faulty("(h))", 3);
        faulty("(h;h)", 2);
        faulty("(h?h)", 2);
        faulty("h?h?h", 3);
        faulty("h;h?h?h", 5);
        faulty("h;;h", 2);
        faulty("h?;h", 2);
        faulty("h ", 1);
        faulty("h +e", 1);
        faulty("h+ e", 2);
        // The first fault of two is told.
        faulty("h)x", 1);
        faulty("h++x)", 2);
    }

    /** "Without a text: h and e." */
    private static void withoutAText() {
        MiddleOne x = Due.crowd(100, 220);
        x.mend(1, 3, 20);
        due.is("the least of all", x.tall(0, 0), 100);
        due.is("the greatest of all", x.tall(1, 0), 240);
        due.is("nor stroke nor queue count", x.tall(1, 99999), 240);
        due.is("an empty tape is no text", x.law(), -100);
        due.is("still without a text", x.tall(1, 0), 240);
        due.is("a fault is no text", Due.law(x, "h+"), -102);
        due.is("nor then", x.tall(1, 0), 240);
        due.is("a text", Due.law(x, "e"), 1);
        due.is("counts from then on", x.tall(1, 0), 20);
        due.is("an empty tape is no text behind one", x.law(), -100);
        due.is("the text stays", x.tall(1, 0), 20);
    }

    /** "at stroke s (0 .. 999), if n (0 .. 99) wait (sn: 100 s and n). VOID: BAD." */
    private static void tall() {
        MiddleOne x = new MiddleOne();
        x.person(150, 99);
        Due.law(x, "s*100+n");
        for (int sn : new int[] {0, 1, 99, 100, 101, 199, 200, 9999, 10000, 99900, 99998, 99999}) due.is("sn " + sn, x.tall(0, sn), sn);
        for (int sn : new int[] {-1, -100, 100000, 100001, Integer.MAX_VALUE, Integer.MIN_VALUE}) due.is("sn " + sn, x.tall(0, sn), VOID);
        Due.law(x, "w");
        due.is("w is below 0 ahead of its coming", x.tall(0, 0), -99);
        due.is("w is 0 as it comes", x.tall(0, 9900), 0);
        due.is("w at the last stroke of all", x.tall(0, 99999), 900);
        Due.law(x, "k");
        for (int p = 1; p < 12; p++) x.person(150, 0);
        due.is("the last number", x.tall(11, 0), 11);
        due.is("the first number", x.tall(0, 0), 0);
    }

    /** "PEOPLE FROM A ROW .. ends (within a three, too), .. or PEOPLE are FULL: those ahead came." */
    private static void fromARow() {
        for (int size = 0; size <= 9; size++) {
            MiddleOne x = new MiddleOne();
            x.row(0, SHORTS, size);
            for (int i = 0; i < size; i++) x.put(0, i, i % 3 == 0 ? 150 : i % 3 == 1 ? 7 : 9);
            due.is("three of a row of " + size, x.people(0, 0, 3), size / 3);
            due.is("they came", x.count(0), size / 3);
            due.is("one of a row of " + size + ", from 3 on", x.people(0, 3, 1), size >= 6 ? 1 : 0);
        }
        MiddleOne x = new MiddleOne();
        x.row(0, SHORTS, 60);
        for (int i = 0; i < 60; i++) x.put(0, i, i % 3 == 0 ? 100 + i : i % 3 == 1 ? i : 99);
        due.is("the last three of all", x.people(0, 57, 2), 1);
        due.is("its height", x.of(0, 0), 157);
        due.is("its coming", x.of(0, 1), 58);
        for (int i : new int[] {60, 61, 1000, Integer.MAX_VALUE, Integer.MAX_VALUE - 1, -1, Integer.MIN_VALUE}) due.is("from " + i, x.people(0, i, 12), 0);
        due.is("twelve wanted, eleven have room", x.people(0, 0, 12), 11);
        due.is("no room at all", x.people(0, 0, 1), 0);
        due.is("twelve", x.count(0), 12);
    }

    /** "one is not so": each number of a three, on both sides, as the first of all and behind others. */
    private static void notSo() {
        int[] least = {100, 0, 1}, greatest = {220, 99, 99};
        for (int at = 0; at < 3; at++) {
            for (int v : new int[] {least[at] - 1, least[at], greatest[at], greatest[at] + 1, Short.MIN_VALUE, Short.MAX_VALUE}) {
                boolean so = v >= least[at] && v <= greatest[at];
                MiddleOne x = new MiddleOne();
                Due.row(x, 0, SHORTS, 150, 5, 5, 160, 6, 6, 170, 7, 7);
                x.put(0, at, v);
                due.is("number " + at + " of the first is " + v, x.people(0, 0, 3), so ? 3 : 0);
                MiddleOne y = new MiddleOne();
                Due.row(y, 0, SHORTS, 150, 5, 5, 160, 6, 6, 170, 7, 7);
                y.put(0, 3 + at, v);
                due.is("number " + at + " of the second is " + v, y.people(0, 0, 3), so ? 3 : 1);
                due.is("those ahead came", y.count(0), so ? 3 : 1);
                if (so) due.is("as told", y.of(1, at), v);
            }
        }
    }

    public static void main(String[] args) {
        numbers();
        waits();
        waitsNoMore();
        oddOrEven();
        tallAsIntsGo();
        tape();
        digits();
        open();
        ints();
        truths();
        comparesOnce();
        lines();
        faults();
        withoutAText();
        tall();
        fromARow();
        notSo();
        due.ends();
    }
}
