/** Promises 9 to 12: enters, stroke, day, mean. */
public final class DaysTest {
    private static final Due due = new Due("DaysTest");
    private static final int BAD = MiddleOne.BAD, NOT = MiddleOne.NOT;

    /**
     * Strokes: 0: 100, 120, 110 wait, 110 (2) is let in. 1: 100, 120: even. 2: 130 (3) came; 120 (1) is let in.
     * 3: 100, 130: even. 4: 130 has gone; 100 (0) is let in.
     */
    private static MiddleOne crowd() {
        MiddleOne x = new MiddleOne();
        x.person(100, 0);
        x.person(120, 0);
        x.person(110, 0);
        x.person(130, 2);
        x.mend(3, 2, 2);
        return x;
    }

    private static void enters() {
        MiddleOne x = crowd();
        int[] when = {4, 2, 0, NOT};
        for (int p = 0; p < 4; p++) due.is("enters(" + p + ")", x.enters(p, 100), when[p]);
        due.is("one stroke too few", x.enters(0, 4), NOT);
        due.is("just enough", x.enters(0, 5), 4);
        due.is("no stroke", x.enters(2, 0), NOT);
        due.is("nobody there", x.enters(4, 5), BAD);
        due.is("nobody ahead", x.enters(-1, 5), BAD);
        due.is("too few strokes", x.enters(0, -1), BAD);
        due.is("too many strokes", x.enters(0, 101), BAD);
        x.strike();
        due.is("a day in thought knows no deed", x.enters(2, 100), 0);
        due.is("nor makes one", x.count(2), 1);
    }

    private static void likeOnes() {
        MiddleOne x = new MiddleOne();
        for (int p = 0; p < 5; p++) x.person(150, 0);
        due.is("of like ones the lesser is the smaller", x.stroke(0, 0), 2);
        x.mend(4, 0, 149);
        due.is("4, 0, 1, 2, 3", x.stroke(0, 0), 1);
        x.mend(4, 3, 2);
        due.is("heels count", x.stroke(0, 0), 2);
    }

    private static void stroke() {
        MiddleOne x = crowd();
        int[] who = {2, NOT, 1, NOT, 0, NOT}, wait = {3, 2, 3, 2, 1, 0};
        for (int s = 0; s < 6; s++) {
            due.is("who at " + s, x.stroke(s, 0), who[s]);
            due.is("how many at " + s, x.stroke(s, 1), wait[s]);
        }
        due.is("the last stroke", x.stroke(99, 0), NOT);
        due.is("the last stroke's queue", x.stroke(99, 1), 0);
        due.is("no stroke below", x.stroke(-1, 0), BAD);
        due.is("no stroke above", x.stroke(100, 0), BAD);
        due.is("no what below", x.stroke(0, -1), BAD);
        due.is("no what above", x.stroke(0, 2), BAD);
        MiddleOne y = new MiddleOne();
        y.person(100, 3);
        y.person(100, 3);
        due.is("even ones stay", y.stroke(99, 1), 2);
        y.mend(0, 2, 1);
        due.is("one has gone", y.stroke(4, 0), 1);
        due.is("stays for it alone", y.stroke(3, 1), 2);
    }

    private static void day() {
        MiddleOne x = crowd();
        int[] in = {0, 1, 1, 2, 2, 3, 3}, without = {0, 0, 0, 0, 1, 1, 1}, longest = {0, 3, 3, 3, 3, 3, 3};
        for (int n = 0; n < 7; n++) {
            due.is("in by " + n, x.day(n, 0), in[n]);
            due.is("without by " + n, x.day(n, 1), without[n]);
            due.is("longest by " + n, x.day(n, 2), longest[n]);
        }
        due.is("by all strokes", x.day(100, 0), 3);
        due.is("too few", x.day(-1, 0), BAD);
        due.is("too many", x.day(101, 0), BAD);
        due.is("no what below", x.day(5, -1), BAD);
        due.is("no what above", x.day(5, 3), BAD);
        x.mend(0, 2, 4);
        due.is("the first one went without", x.day(4, 1), 2);
        MiddleOne y = new MiddleOne();
        y.person(100, 0);
        y.person(100, 1);
        y.person(100, 1);
        due.is("longest later", y.day(2, 2), 2);
        due.is("longest ahead of it", y.day(1, 2), 1);
    }

    private static void mean() {
        MiddleOne x = crowd();
        due.is("nobody in", x.mean(0, 0, 0), NOT);
        due.is("nobody in, below the line", x.mean(0, 1, 1), NOT);
        due.is("no wait", x.mean(1, 0, 0), 0);
        due.is("in lowest terms", x.mean(1, 0, 1), 1);
        due.is("0 and 2 by 2", x.mean(3, 0, 0), 1);
        due.is("0 and 2 by 2, below", x.mean(3, 0, 1), 1);
        due.is("0, 2, 4 by 3", x.mean(5, 0, 0), 2);
        due.is("110 and 120 by 2", x.mean(4, 1, 0), 115);
        x.mend(0, 0, 101);
        due.is("331 by 3", x.mean(5, 1, 0), 331);
        due.is("331 by 3, below", x.mean(5, 1, 1), 3);
        x.mend(3, 2, 1);
        due.is("0, 2 and 3 by 3", x.mean(5, 0, 0), 5);
        due.is("0, 2 and 3 by 3, below", x.mean(5, 0, 1), 3);
        x.mend(2, 3, 1);
        due.is("heels are off", x.mean(1, 1, 0), 110);
        due.is("wait is since it came", meanOfOne(), 0);
        due.is("too few", x.mean(-1, 0, 0), Long.MIN_VALUE);
        due.is("too many", x.mean(101, 0, 0), Long.MIN_VALUE);
        due.is("no what below", x.mean(5, -1, 0), Long.MIN_VALUE);
        due.is("no what above", x.mean(5, 2, 0), Long.MIN_VALUE);
        due.is("no part below", x.mean(5, 0, -1), Long.MIN_VALUE);
        due.is("no part above", x.mean(5, 0, 2), Long.MIN_VALUE);
        due.is("BAD is named ahead of NOT", new MiddleOne().mean(5, 0, 2), Long.MIN_VALUE);
    }

    private static long meanOfOne() {
        MiddleOne x = new MiddleOne();
        x.person(150, 9);
        return x.mean(20, 0, 0);
    }

    public static void main(String[] args) {
        enters();
        likeOnes();
        stroke();
        day();
        mean();
        due.ends();
    }
}
