/** Promises 6 to 8: feed, law, tall. */
public final class LawTest {
    private static final Due due = new Due("LawTest");
    private static final int BAD = MiddleOne.BAD, FULL = MiddleOne.FULL, VOID = MiddleOne.VOID;

    /** One of height 150, heels 7, who comes at stroke 3, number 1. */
    private static MiddleOne crowd() {
        MiddleOne x = new MiddleOne();
        x.person(200, 0);
        x.person(150, 3);
        x.mend(1, 3, 7);
        return x;
    }

    /** At stroke 10, 4 waiting. */
    private static void gives(String text, long want) {
        MiddleOne x = crowd();
        due.is("law " + text, Due.law(x, text), 1);
        due.is(text, x.tall(1, 1004), want);
    }

    private static void faulty(String text, int place) {
        MiddleOne x = crowd();
        Due.law(x, "n");
        due.is("fault of " + text, Due.law(x, text), -100 - place);
        due.is("the law stays after " + text, x.tall(1, 1004), 4);
        due.is("the tape is empty after " + text, x.count(3), 0);
    }

    private static void feed() {
        MiddleOne x = new MiddleOne();
        due.is("below a byte", x.feed(-1), BAD);
        due.is("above a byte", x.feed(256), BAD);
        due.is("nothing came", x.count(3), 0);
        due.is("the least", x.feed(0), 1);
        due.is("the greatest", x.feed(255), 2);
        for (int i = 3; i <= 120; i++) due.is("byte " + i, x.feed('1'), i);
        due.is("one more", x.feed('1'), FULL);
        due.is("BAD is named ahead of FULL", x.feed(256), BAD);
        due.is("120 are there", x.count(3), 120);
        due.is("its fault", x.law(), -100);
        due.is("empty then", x.count(3), 0);
    }

    private static void values() {
        gives("h", 150);
        gives("e", 7);
        gives("w", 7);
        gives("s", 10);
        gives("k", 1);
        gives("n", 4);
        gives("0", 0);
        gives("0007", 7);
        gives("9999", 9999);
        gives("2+3*4", 14);
        gives("2*3+4", 10);
        gives("9-3-2", 4);
        gives("9/4*2", 4);
        gives("9%4", 1);
        gives("-9/4", -2);
        gives("-9%4", -1);
        gives("9/0", 0);
        gives("9%0", 0);
        gives("9999*9999*9999", (int) (9999L * 9999 * 9999));
        gives("-2*1024*1024*1024/-1", Integer.MIN_VALUE);
        gives("-2*1024*1024*1024%-1", 0);
        gives("!5", 0);
        gives("!0", 1);
        gives("!!5", 1);
        gives("--5", 5);
        gives("1--5", 6);
        gives("-h+e", -143);
        gives("!h+2", 2);
        gives("2<3", 1);
        gives("3<3", 0);
        gives("3=3", 1);
        gives("3>3", 0);
        gives("3>2", 1);
        gives("1+1=2", 1);
        gives("2&3", 1);
        gives("2&0", 0);
        gives("0|0", 0);
        gives("0|7", 1);
        gives("1|0&0", 1);
        gives("(1|0)&0", 0);
        gives("1<2&2<3", 1);
        gives("(1<2)<3", 1);
        gives("5-(2-1)", 4);
        gives("((((((h))))))", 150);
        gives("(h)+((((((h))))))", 300);
        gives("!!!!!!h", 1);
        gives("-!(-!(h))", -1);
        // As much as can wait to be joined: five on each of seven levels.
        String open = "0|1&1<1+1*";
        gives(open + "(" + open + "(" + open + "(" + open + "(" + open + "(" + open + "(" + open + "2))))))", 1);
    }

    private static void lines() {
        gives("1?5;6", 5);
        gives("0?5;6", 6);
        gives("-3?5;6", 5);
        gives("0?5;0?6", 0);
        gives("0?5;s>9?6;7", 6);
        gives("0?5;s>10?6;7", 7);
        gives("4;1?5", 4);
        gives("0;5", 0);
        gives("h>149&e=7?n*100;1", 400);
        gives("1|1?0|5;8", 1);
        gives("((((((h))))))?((((((e))))));8", 7);
        gives("!!!!!!0?5;!!!!!!n", 1);
    }

    private static void faults() {
        faulty("", 0);
        faulty(" h", 0);
        faulty("h h", 1);
        faulty("x", 0);
        faulty("12345", 4);
        faulty("h1", 1);
        faulty("1h", 1);
        faulty("hh", 1);
        faulty("h+", 2);
        faulty("h+*", 2);
        faulty("+h", 0);
        faulty("(h", 2);
        faulty("()", 1);
        faulty("h)", 1);
        faulty("(h;", 2);
        faulty("(h?", 2);
        faulty("1<2<3", 3);
        faulty("1<2=3", 3);
        faulty("1?2?3", 3);
        faulty("?1", 0);
        faulty("1?", 2);
        faulty("1?;2", 2);
        faulty(";", 0);
        faulty("1;", 2);
        faulty("1;;", 2);
        faulty("!", 1);
        faulty("1!", 1);
        faulty("(((((((h)))))))", 6);
        faulty("!!!!!!!h", 6);
        faulty("-------h", 6);
        faulty("(-(!(-h))))", 10);
        faulty("(-(!(-!h))))", 6);
        faulty("h+(!(-(!1", 9);
        faulty("h+(!(-(!(-1", 8);
        faulty("(-(!(-(h", 6);
        faulty("hE", 1);
        faulty("h" + (char) 255, 1);
        faulty("h" + (char) 0, 1);
        StringBuilder ones = new StringBuilder("1");
        while (ones.length() < 119) ones.append("+1");
        faulty(ones + "+", 120);
        gives(ones.toString(), 60);
        gives("-" + ones, 58);
    }

    private static void tall() {
        MiddleOne x = crowd();
        due.is("without a text", x.tall(1, 0), 157);
        due.is("nobody there", x.tall(2, 0), VOID);
        due.is("nobody ahead", x.tall(-1, 0), VOID);
        due.is("no stroke below", x.tall(1, -1), VOID);
        due.is("no stroke above", x.tall(1, 100000), VOID);
        due.is("no stroke far above", x.tall(1, Integer.MAX_VALUE), VOID);
        due.is("no stroke far below", x.tall(1, Integer.MIN_VALUE), VOID);
        Due.law(x, "s*1000+n");
        due.is("the last of all", x.tall(1, 99999), 999099);
        due.is("the first of all", x.tall(1, 0), 0);
        Due.law(x, "w");
        due.is("ahead of its coming", x.tall(1, 0), -3);
        due.is("a law is no change", x.count(4), 1);
    }

    private static void inStrokes() {
        MiddleOne x = new MiddleOne();
        x.person(150, 0);
        x.person(160, 0);
        x.person(170, 0);
        Due.law(x, "k=0?165;h");
        due.is("in thought", x.enters(0, 1), 0);
        Due.law(x, "n=3&s=0&w=0?0-(k-2)*(k-2);h");
        due.is("by n, s and w", x.enters(1, 1), 0);
        due.is("in deed", x.strike(), 1);
    }

    public static void main(String[] args) {
        feed();
        values();
        lines();
        faults();
        tall();
        inStrokes();
        due.ends();
    }
}
