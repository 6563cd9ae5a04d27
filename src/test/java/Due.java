/** Counts the answers that are not as due, and tells them. */
final class Due {
    private final String name;
    private int asked = 0;
    private int wrong = 0;

    Due(String name) {
        this.name = name;
    }

    void is(String call, long got, long want) {
        asked++;
        if (got == want) return;
        wrong++;
        System.out.println(name + ": " + call + " answered " + got + ", due is " + want);
    }

    void holds(String what, boolean so) {
        asked++;
        if (so) return;
        wrong++;
        System.out.println(name + ": it does not hold that " + what);
    }

    void ends() {
        System.out.println(name + ": " + asked + " asked, " + wrong + " wrong");
        if (wrong != 0 || asked == 0) System.exit(1);
    }

    /** People of these heights who are all there at stroke 0. */
    static MiddleOne crowd(int... heights) {
        MiddleOne x = new MiddleOne();
        for (int h : heights) x.person(h, 0);
        return x;
    }

    /** Feeds a text and makes it the law. */
    static int law(MiddleOne x, String text) {
        for (int i = 0; i < text.length(); i++) x.feed(text.charAt(i));
        return x.law();
    }

    /** Lays a row of a sort with these elements. */
    static void row(MiddleOne x, int shelf, int sort, long... v) {
        x.row(shelf, sort, v.length);
        for (int i = 0; i < v.length; i++) x.put(shelf, i, v[i]);
    }
}
