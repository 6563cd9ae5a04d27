/** Promises 1 to 5: a new object, person, people, mend, of. */
public final class PeopleTest {
    private static final Due due = new Due("PeopleTest");
    private static final int BAD = MiddleOne.BAD, NOT = MiddleOne.NOT, FULL = MiddleOne.FULL, STATE = MiddleOne.STATE;
    private static final int BYTES = 0, SHORTS = 1, INTS = 2;

    private static void aNewObject() {
        MiddleOne x = new MiddleOne();
        for (int what = 0; what <= 6; what++) due.is("new: count(" + what + ")", x.count(what), 0);
        for (int what = 0; what <= 5; what++) due.is("new: led(" + what + ")", x.led(what), 0);
        for (int shelf = 0; shelf <= 5; shelf++) due.is("new: put(" + shelf + ")", x.put(shelf, 0, 1), -11);
        due.is("new: undo", x.undo(), STATE);
        due.is("new: redo", x.redo(), STATE);
        due.is("new: back", x.back(), STATE);
        due.is("new: trace", x.trace(0), BAD);
        due.is("BAD", BAD, -1);
        due.is("NOT", NOT, -2);
        due.is("FULL", FULL, -3);
        due.is("STATE", STATE, -5);
        due.is("VOID", MiddleOne.VOID, -2000000000);
    }

    private static void person() {
        MiddleOne x = new MiddleOne();
        due.is("too small", x.person(99, 0), BAD);
        due.is("too tall", x.person(221, 0), BAD);
        due.is("too early", x.person(150, -1), BAD);
        due.is("too late", x.person(150, 100), BAD);
        due.is("nobody came", x.count(0), 0);
        due.is("smallest, earliest", x.person(100, 0), 0);
        due.is("tallest, latest", x.person(220, 99), 1);
        int[] first = {220, 99, 99, 0, 5};
        for (int what = 0; what < 5; what++) due.is("number " + what + " at first", x.of(1, what), first[what]);
        for (int p = 2; p < 12; p++) due.is("person " + p, x.person(150, 1), p);
        due.is("BAD is named ahead of FULL", x.person(99, 0), BAD);
        due.is("a thirteenth", x.person(150, 0), FULL);
        due.is("twelve are there", x.count(0), 12);
        due.is("a coming is no change", x.count(4), 0);
    }

    private static void people() {
        MiddleOne x = new MiddleOne();
        due.is("no shelf", x.people(6, 0, 1), BAD);
        due.is("no shelf below", x.people(-1, 0, 1), BAD);
        due.is("none wanted", x.people(0, 0, 0), BAD);
        due.is("thirteen wanted", x.people(0, 0, 13), BAD);
        due.is("the row is missing", x.people(0, 0, 1), 0);
        x.row(0, BYTES, 3);
        due.is("a row of bytes", x.people(0, 0, 1), -12);
        x.row(0, INTS, 3);
        due.is("a row of ints", x.people(0, 0, 1), -12);
        due.is("BAD is named ahead of -12", x.people(0, 0, 0), BAD);
        x.body(0);
        x.keep(0, 0);
        due.is("a stroke", x.people(0, 0, 1), -12);

        Due.row(x, 1, SHORTS, 7, 120, 3, 9, 130, 4, 10, 140, 5);
        due.is("it ends within a three", x.people(1, 1, 3), 2);
        due.is("height", x.of(1, 0), 130);
        due.is("comes", x.of(1, 1), 4);
        due.is("stays", x.of(1, 2), 10);
        due.is("heels", x.of(1, 3), 0);
        due.is("price", x.of(1, 4), 5);
        due.is("no more than wanted", x.people(1, 1, 1), 1);
        due.is("the last three of the row", x.people(1, 4, 2), 1);
        due.is("from behind the end", x.people(1, 9, 1), 0);
        due.is("from far behind the end", x.people(1, Integer.MAX_VALUE, 12), 0);
        due.is("from ahead of the row", x.people(1, -1, 1), 0);
        due.is("from far ahead of the row", x.people(1, Integer.MIN_VALUE, 1), 0);
        due.is("four are there", x.count(0), 4);
        x.row(1, SHORTS, 60);
        for (int i = 57; i < 60; i++) x.put(1, i, i == 57 ? 170 : 3);
        due.is("the last three of the longest row", x.people(1, 57, 12), 1);
        due.is("from its end", x.people(1, 60, 12), 0);
        due.is("five are there", x.count(0), 5);
        due.is("a coming is no change", x.count(4), 0);
    }

    private static void peopleNotSo() {
        long[][] rows = {{99, 0, 1}, {221, 0, 1}, {100, -1, 1}, {100, 100, 1}, {100, 0, 0}, {100, 0, 100}};
        for (long[] r : rows) {
            MiddleOne x = new MiddleOne();
            Due.row(x, 0, SHORTS, 220, 99, 99, r[0], r[1], r[2], 150, 0, 1);
            due.is("one ahead of one that is not so", x.people(0, 0, 3), 1);
            due.is("it came", x.count(0), 1);
        }
        MiddleOne x = new MiddleOne();
        Due.row(x, 0, SHORTS, 150, 0, 1, 150, 0, 1, 150, 0, 1);
        for (int p = 0; p < 10; p++) x.person(150, 0);
        due.is("two till they are full", x.people(0, 0, 3), 2);
        due.is("none, since they are full", x.people(0, 0, 3), 0);
        due.is("twelve are there", x.count(0), 12);
        MiddleOne y = new MiddleOne();
        y.row(5, SHORTS, 60);
        for (int i = 0; i < 36; i += 3) {
            y.put(5, i, 150);
            y.put(5, i + 2, 4);
        }
        due.is("all twelve", y.people(5, 0, 12), 12);
    }

    private static void mend() {
        int[] least = {100, 0, 1, 0, 0}, greatest = {220, 99, 99, 20, 99}, first = {150, 7, 99, 0, 5};
        for (int what = 0; what < 5; what++) {
            MiddleOne x = new MiddleOne();
            x.person(150, 7);
            due.is(what + " too little", x.mend(0, what, least[what] - 1), BAD);
            due.is(what + " too much", x.mend(0, what, greatest[what] + 1), BAD);
            due.is(what + " is as it was", x.of(0, what), first[what]);
            due.is(what + " no change yet", x.count(4), 0);
            due.is(what + " the least", x.mend(0, what, least[what]), first[what]);
            due.is(what + " the greatest", x.mend(0, what, greatest[what]), least[what]);
            due.is(what + " is so now", x.of(0, what), greatest[what]);
        }
        MiddleOne x = new MiddleOne();
        due.is("nobody there", x.mend(0, 0, 150), BAD);
        x.person(150, 0);
        due.is("nobody behind", x.mend(1, 0, 150), BAD);
        due.is("nobody ahead", x.mend(-1, 0, 150), BAD);
        due.is("no such number above", x.mend(0, 5, 5), BAD);
        due.is("no such number below", x.mend(0, -1, 5), BAD);
        due.is("waiting is not told", x.mend(0, 10, 1), BAD);
    }

    private static void of() {
        MiddleOne x = new MiddleOne();
        due.is("nobody there", x.of(0, 0), BAD);
        x.person(150, 1);
        x.mend(0, 2, 2);
        due.is("nobody ahead", x.of(-1, 0), BAD);
        for (int what : new int[] {-1, 5, 9, 12}) due.is("no such what " + what, x.of(0, what), BAD);
        due.is("not there yet", x.of(0, 10), 0);
        due.is("not in yet", x.of(0, 11), NOT);
        x.strike();
        due.is("waits now", x.of(0, 10), 1);
        x.strike();
        due.is("waits no more", x.of(0, 10), 0);
        due.is("in since", x.of(0, 11), 1);
        x.person(160, 0);
        x.mend(1, 2, 3);
        due.is("the last stroke of its stay", x.of(1, 10), 1);
        x.mend(1, 2, 2);
        due.is("the stay is over", x.of(1, 10), 0);
        x.mend(1, 2, 3);
        x.take(1);
        due.is("away", x.of(1, 10), 0);
        due.is("away is not in", x.of(1, 11), NOT);
        x.dawn();
        due.is("a new day", x.of(0, 11), NOT);
        due.is("waits again", x.of(1, 10), 1);
    }

    public static void main(String[] args) {
        aNewObject();
        person();
        people();
        peopleNotSo();
        mend();
        of();
        due.ends();
    }
}
