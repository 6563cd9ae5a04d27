import java.lang.reflect.InvocationTargetException;
import java.lang.reflect.Method;
import java.util.ArrayList;
import java.util.Comparator;
import java.util.List;
import java.util.Random;

/** Rule 7: no call may ever throw, for any arguments in any state; and what is refused changes nothing. */
public final class AnyArgumentsTest {
    private static final Due due = new Due("AnyArgumentsTest");
    private static final int[] EDGES = {
        Integer.MIN_VALUE, Integer.MIN_VALUE + 1, -2147483600, -1000000, -300, -128, -15, -2, -1, 0, 1, 2, 3, 4, 5, 6, 7, 8, 9, 10, 11, 12,
        13, 14, 15, 16, 20, 21, 24, 30, 31, 32, 49, 50, 59, 60, 61, 63, 64, 98, 99, 100, 101, 119, 120, 121, 127, 128, 160, 200, 220, 221,
        255, 256, 300, 301, 310, 511, 512, 998, 999, 1000, 4095, 4096, 32767, 99999, 100000, 2147483645, Integer.MAX_VALUE};

    private static List<Method> calls() {
        List<Method> all = new ArrayList<>();
        for (Method m : MiddleOne.class.getDeclaredMethods()) if (java.lang.reflect.Modifier.isPublic(m.getModifiers())) all.add(m);
        all.sort(Comparator.comparing(Method::getName));
        return all;
    }

    private static Object[] arguments(Method m, Random random) {
        Object[] a = new Object[m.getParameterCount()];
        for (int i = 0; i < a.length; i++) {
            int v = random.nextInt(5) == 0 ? random.nextInt() : EDGES[random.nextInt(EDGES.length)];
            if (random.nextInt(3) != 0) v = random.nextInt(12);
            if (m.getName().equals("person") && random.nextInt(4) != 0) v = i == 0 ? 100 + random.nextInt(121) : random.nextInt(9);
            if (m.getName().equals("feed") && random.nextInt(9) != 0) v = "hewskn12+-*/%<=>&|!();?".charAt(random.nextInt(23));
            a[i] = m.getParameterTypes()[i] == long.class ? (Object) (random.nextBoolean() ? random.nextLong() : (long) v) : (Object) v;
        }
        return a;
    }

    private static void runs(long seed, List<Method> calls) throws IllegalAccessException {
        Random random = new Random(seed);
        MiddleOne x = new MiddleOne();
        for (int call = 0; call < 512; call++) {
            Method m = calls.get(random.nextInt(calls.size()));
            Object[] a = arguments(m, random);
            try {
                m.invoke(x, a);
            } catch (InvocationTargetException e) {
                due.holds(m.getName() + java.util.Arrays.toString(a) + " does not throw " + e.getCause(), false);
                return;
            }
        }
        due.holds("run " + seed + " ends", true);
    }

    /** All that can be asked without changing anything. */
    private static List<Long> state(MiddleOne x) {
        List<Long> all = new ArrayList<>();
        for (int what = 0; what < 7; what++) all.add((long) x.count(what));
        for (int what = 0; what < 6; what++) all.add((long) x.led(what));
        for (int p = 0; p < 12; p++) {
            for (int what = 0; what < 12; what++) all.add((long) x.of(p, what));
            all.add((long) x.tall(p, 1234));
        }
        for (int shelf = 0; shelf < 6; shelf++) {
            for (int k = 0; k < 8; k++) all.add((long) x.taken(shelf, k));
            for (int i = 0; i < 60; i++) all.add(x.element(shelf, i));
        }
        for (int i = 0; i < 24; i++) all.add((long) x.trace(i));
        return all;
    }

    private static MiddleOne used() {
        MiddleOne x = new MiddleOne();
        for (int p = 0; p < 11; p++) x.person(150 + p, p % 3);
        x.mend(0, 3, 4);
        x.mend(1, 0, 170);
        x.undo();
        Due.law(x, "h*2+e-w+k+n");
        x.feed('1');
        x.body(7);
        x.body(5);
        x.act(0, 3, 9);
        Due.row(x, 0, 0, 5, -1, 3);
        Due.row(x, 1, 1, 150, 2);
        Due.row(x, 2, 3, 7, 8, 9);
        x.keep(3, 1);
        x.strike();
        x.take(2);
        x.strike();
        return x;
    }

    private static void refusedChangesNothing(List<Method> calls) throws ReflectiveOperationException {
        Random random = new Random(44);
        for (Method m : calls) {
            if (m.getName().equals("act") || m.getName().equals("law")) continue;
            MiddleOne x = used();
            List<Long> before = state(x);
            for (int call = 0; call < 400; call++) {
                Object[] a = arguments(m, random);
                long got = ((Number) m.invoke(x, a)).longValue();
                boolean asks = "of tall enters stroke day mean sent brought heels later allWear gates where bestSet atLast rule judge with heeled drawn led trace element taken count"
                    .matches("(.* )?" + m.getName() + "( .*)?");
                boolean refused = got < 0 && !m.getName().equals("strike");
                if (asks || refused) {
                    boolean same = before.equals(state(x));
                    if (!same) due.holds(m.getName() + java.util.Arrays.toString(a) + " = " + got + " changes nothing", false);
                }
                x = asks || refused ? x : used();
            }
            due.holds(m.getName() + " changes nothing where it is refused", true);
        }
    }

    public static void main(String[] args) throws ReflectiveOperationException {
        List<Method> calls = calls();
        due.is("calls", calls.size(), 43);
        int many = args.length > 0 ? Integer.parseInt(args[0]) : 300;
        for (int seed = 0; seed < many; seed++) runs(seed, calls);
        refusedChangesNothing(calls);
        due.ends();
    }
}
