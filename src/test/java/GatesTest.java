/** Promises 18 to 22: gates, where, bestSet, atLast, rule. */
public final class GatesTest {
    private static final Due due = new Due("GatesTest");
    private static final int BAD = MiddleOne.BAD, NOT = MiddleOne.NOT, STATE = MiddleOne.STATE;

    private static void gates() {
        MiddleOne x = Due.crowd(150, 160, 170, 180, 170);
        // At the second gate the tallest goes first, even if they are even; of like ones the greater number.
        due.is("3 first", x.gates(4 + 8 + 16, 3), 0);
        due.is("4 ahead of 2", x.gates(4 + 8 + 16, 4), 1);
        due.is("2 at last", x.gates(4 + 8 + 16, 2), 2);
        due.is("two are even at the first gate", x.gates(4 + 8 + 16, 0), NOT);
        due.is("three in all", x.gates(4 + 8 + 16, -1), 3);
        due.is("three at the first gate", x.gates(8 + 16, 1), 0);
        due.is("both gates at one stroke", x.gates(8 + 16, 3), 0);
        due.is("all at the second gate", x.gates(31, 0), 4);
        due.is("all at the second gate, how many", x.gates(31, -1), 5);
        due.is("all at the first gate", x.gates(0, 2), 0);
        due.is("all at the first gate, how many", x.gates(0, -1), 1);
        due.is("no such set above", x.gates(32, -1), BAD);
        due.is("no such set below", x.gates(-1, -1), BAD);
        due.is("nobody there", x.gates(0, 5), BAD);
        due.is("nobody ahead", x.gates(0, -2), BAD);
        MiddleOne y = new MiddleOne();
        y.person(150, 99);
        due.is("within 100 strokes", y.gates(1, 0), 99);
        y.mend(0, 3, 5);
        y.person(154, 99);
        due.is("heels count at the second gate", y.gates(3, 0), 99);
        due.is("the other is too late", y.gates(3, 1), NOT);
    }

    private static void gatesByLaw() {
        MiddleOne x = Due.crowd(150, 160, 170);
        Due.law(x, "n=2?-h;h");
        due.is("two wait at the second gate: the smallest is the tallest", x.gates(3, 0), 0);
        due.is("then the other, alone", x.gates(3, 1), 1);
        due.is("three wait there", x.gates(7, 2), 0);
    }

    private static void where() {
        MiddleOne x = Due.crowd(150, 160, 170);
        due.is("the middle one stays", x.where(1), 0);
        due.is("the smallest goes to the second gate", x.where(0), 1);
        x.mend(1, 2, 1);
        x.mend(2, 1, 99);
        due.is("never at the first gate", x.where(0), 1);
        due.is("alone at 99", x.where(2), 0);
        due.is("nobody there", x.where(3), BAD);
        due.is("nobody ahead", x.where(-1), BAD);
    }

    private static void bestSet() {
        MiddleOne x = Due.crowd(150, 160, 170);
        due.is("no stroke", x.bestSet(0, 0), 0);
        due.is("no stroke, how many", x.bestSet(0, 1), 0);
        // By 1 stroke two can be in: three less one is even, so two stand at the second gate, the third alone.
        due.is("by 1", x.bestSet(1, 1), 2);
        due.is("by 1, who", x.bestSet(1, 0), 3);
        due.is("by 2", x.bestSet(2, 1), 3);
        due.is("by 2, who", x.bestSet(2, 0), 3);
        due.is("by 3, who", x.bestSet(3, 0), 3);
        due.is("too few", x.bestSet(-1, 0), BAD);
        due.is("too many", x.bestSet(101, 0), BAD);
        due.is("no what below", x.bestSet(1, -1), BAD);
        due.is("no what above", x.bestSet(1, 2), BAD);
        due.is("nobody at all", new MiddleOne().bestSet(5, 0), 0);
        due.is("nobody at all, how many", new MiddleOne().bestSet(5, 1), 0);
        MiddleOne one = Due.crowd(150);
        due.is("of like ones the least", one.bestSet(1, 0), 0);
        MiddleOne y = Due.crowd(150, 150, 150, 150, 150, 150, 150, 150);
        due.is("eight people", y.bestSet(1, 1), 2);
        due.is("eight people, the least set: seven at the first gate", y.bestSet(1, 0), 1);
        y.person(150, 0);
        due.is("nine people", y.bestSet(1, 1), STATE);
        due.is("BAD is named ahead of STATE", y.bestSet(101, 1), BAD);
    }

    private static void atLast() {
        MiddleOne x = new MiddleOne();
        due.is("nobody", x.atLast(), 0);
        x.person(150, 0);
        due.is("one", x.atLast(), 0);
        x.person(150, 7);
        due.is("another later", x.atLast(), 7);
        x.person(150, 7);
        due.is("two are even", x.atLast(), NOT);
        x.mend(2, 1, 99);
        due.is("the last stroke", x.atLast(), 99);
        x.mend(0, 1, 8);
        due.is("the latest, not the last number", x.atLast(), 99);
        x.mend(2, 1, 3);
        due.is("8 is the latest now", x.atLast(), 8);
    }

    private static void rule() {
        MiddleOne x = Due.crowd(150, 160);
        due.is("two by 1", x.rule(1), NOT);
        due.is("two by 2, even or not", x.rule(2), 0);
        // The smallest first: 2 has gone by stroke 2; the tallest first: 2 is in at once.
        MiddleOne y = Due.crowd(150, 160, 170);
        y.mend(2, 2, 1);
        due.is("the tallest must be first", y.rule(3), 4);
        y.mend(2, 2, 99);
        y.mend(1, 2, 1);
        // Of three: 2 * 2 / 4 is 1, and 3 * 2 / 4 is 1.
        due.is("the middle must be first", y.rule(3), 2);
        MiddleOne z = Due.crowd(150, 160, 170, 180, 190);
        z.mend(1, 2, 1);
        due.is("of five the second is at place 1", z.rule(5), 1);
        z.mend(1, 2, 99);
        z.mend(3, 2, 1);
        due.is("of five the fourth is at place 3", z.rule(5), 3);
        z.mend(0, 2, 2);
        due.is("both, since 0 can be second no more", z.rule(5), NOT);
        MiddleOne w = Due.crowd(150, 160);
        w.mend(1, 2, 1);
        // Of two: 3 * 1 / 4 is cut to 0.
        due.is("cut", w.rule(2), 4);
        w.mend(0, 3, 20);
        due.is("by how tall they are, heels on", w.rule(2), 0);
        due.is("too few", w.rule(-1), BAD);
        due.is("too many", w.rule(101), BAD);
        due.is("nobody at all", new MiddleOne().rule(0), 0);
        due.is("one by no stroke", Due.crowd(150).rule(0), NOT);
    }

    public static void main(String[] args) {
        gates();
        gatesByLaw();
        where();
        bestSet();
        atLast();
        rule();
        due.ends();
    }
}
