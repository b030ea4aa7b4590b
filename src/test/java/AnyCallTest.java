import java.lang.reflect.Method;
import java.lang.reflect.Modifier;
import java.util.ArrayList;
import java.util.Comparator;
import java.util.List;
import java.util.Random;

/**
 * Every method with whatever numbers, in whatever state: none throws, and what answers an ERROR is
 * told, and has changed nothing that can be seen.
 */
public final class AnyCallTest {
    private static final long[] ODD = {
        0, 0, 1, 1, 2, 3, 4, 5, 6, 7, 8, 9, 10, 12, 16, 32, 39, 40, 41, 59, 60, 61, 69, 70, 99, 100, -1, -2, -99,
        200, 299, 9999, 19999, 20000, Integer.MAX_VALUE, Integer.MIN_VALUE, Integer.MAX_VALUE - 1,
        1 << 30, 0x2b6b342b6b3434L, 0x7c21287628212876L, Long.MIN_VALUE, Long.MAX_VALUE,
    };
    private static final Due due = new Due("AnyCallTest");

    public static void main(String[] args) throws Exception {
        List<Method> methods = new ArrayList<>();
        for (Method m : CatchBars.class.getDeclaredMethods()) {
            if (Modifier.isPublic(m.getModifiers())) {
                methods.add(m);
            }
        }
        methods.sort(Comparator.comparing(Method::getName));
        due.due("methods", methods.size(), 40);
        for (int run = 0; run < 2000; run++) {
            run(methods, new Random(run));
        }
        due.end();
    }

    /** A twin gets only those calls that answer no ERROR: in the end both must be alike. */
    private static void run(List<Method> methods, Random random) throws Exception {
        CatchBars x = new CatchBars();
        CatchBars twin = new CatchBars();
        int flyers = random.nextInt(5);
        for (int i = 0; i < flyers; i++) {
            int km = random.nextInt(70);
            x.flyer(km);
            twin.flyer(km);
        }
        int errors = 0;
        for (int call = 0; call < 240; call++) {
            Method m = methods.get(random.nextInt(methods.size()));
            Class<?>[] kinds = m.getParameterTypes();
            Object[] arguments = new Object[kinds.length];
            StringBuilder told = new StringBuilder(m.getName());
            for (int i = 0; i < kinds.length; i++) {
                long v = ODD[random.nextInt(random.nextBoolean() ? ODD.length : 10)];
                arguments[i] = kinds[i] == long.class ? (Object) v : (Object) (int) v;
                told.append(' ').append(arguments[i]);
            }
            long answer = ((Number) m.invoke(x, arguments)).longValue();
            if (answer >= Due.KIND && answer <= Due.BEYOND) {
                errors++;
            } else {
                long other = ((Number) m.invoke(twin, arguments)).longValue();
                if (!m.getName().equals("told")) {
                    due.due(told + " of a twin", answer, other);
                }
                if (!List.of("seed", "voice", "count").contains(m.getName())) {
                    due.due(told + " is no ERROR", answer > Due.LOW ? 1 : 0, 1);
                }
            }
        }
        int sum = 0;
        for (int k = 1; k <= 5; k++) {
            sum += x.told(k);
            due.due("the twin's told(" + k + ")", twin.told(k), 0);
        }
        due.due("ERRORS told", sum, errors);
        long[] of = seen(x);
        long[] other = seen(twin);
        due.due("as many", of.length, other.length);
        for (int i = 0; i < of.length && i < other.length; i++) {
            due.due("what is seen, " + i, of[i], other[i]);
        }
    }

    /** What can be seen without an ERROR and without a change. */
    private static long[] seen(CatchBars x) {
        int flyers = x.count(0);
        int bodies = x.count(10);
        long[] seen = new long[12 + 41 * 2 + 6 + flyers * 8 + bodies];
        int at = 0;
        for (int what = 0; what < 12; what++) {
            seen[at++] = x.count(what);
        }
        for (int t = 0; t < 41; t++) {
            seen[at++] = x.bar(0, t);
            seen[at++] = x.bar(1, t);
        }
        for (int use = 0; use < 2; use++) {
            for (int v = -5; v <= 5; v += 5) {
                seen[at++] = x.law(use, 2, v, 4);
            }
        }
        for (int f = 0; f < flyers; f++) {
            for (int what = 0; what < 7; what++) {
                seen[at++] = x.ofFlyer(f, what);
            }
            seen[at++] = x.then(f, 7, 0);
        }
        for (int i = 0; i < bodies; i++) {
            seen[at++] = x.trace(i);
        }
        return seen;
    }
}
