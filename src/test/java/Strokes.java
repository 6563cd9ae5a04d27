import java.util.ArrayList;
import java.util.List;

/** Part 5 of the document as classes of Java: here the language itself finds the bodies. */
final class Strokes {
    interface Waits {
        int n();
        void ran(int body);
        default int waits(int x) { ran(1); return x + n(); }
    }

    interface Tells {
        int counts(int x);
        int opens(int x);
        void ran(int body);
        default int tells(int x) { ran(2); return counts(x) - opens(1); }
    }

    static class Stroke implements Waits, Tells {
        int kind;
        int number;
        List<Integer> trace = new ArrayList<>();
        public int n() { return number; }
        public void ran(int body) { trace.add(body); }
        public int counts(int x) { ran(10); return waits(x) * 2; }
        public int opens(int x) { ran(11); return x ^ n(); }
    }

    static class Tall extends Stroke {
        public int waits(int x) { ran(20); return super.waits(x) + 3; }
    }

    static class Small extends Stroke {
        public int counts(int x) { ran(30); return -super.counts(x); }
    }

    static class Middle extends Small {
        public int opens(int x) { ran(40); return super.opens(x) * 3; }
        public int counts(int x) { ran(41); return super.counts(x + 1); }
    }

    static class Heeled extends Tall {
        public int opens(int x) { ran(50); return super.opens(x) - waits(2); }
    }

    static class Gate extends Middle {
        public int tells(int x) { ran(60); return super.tells(x) ^ 5; }
    }

    static class Boy extends Stroke {
        public int waits(int x) { ran(70); return super.waits(x) * 2; }
    }

    static class Hat extends Heeled {
        public int counts(int x) { ran(80); return super.counts(x) + opens(2); }
        public int tells(int x) { ran(81); return super.tells(x) - 1; }
    }

    static Stroke make(int kind, int number) {
        Stroke s;
        switch (kind) {
            case 0: s = new Stroke(); break;
            case 1: s = new Tall(); break;
            case 2: s = new Small(); break;
            case 3: s = new Middle(); break;
            case 4: s = new Heeled(); break;
            case 5: s = new Gate(); break;
            case 6: s = new Boy(); break;
            default: s = new Hat();
        }
        s.kind = kind;
        s.number = number;
        return s;
    }

    private Strokes() { }
}
