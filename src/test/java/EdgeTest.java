import java.lang.reflect.InvocationTargetException;
import java.lang.reflect.Method;
import java.util.ArrayList;
import java.util.Comparator;
import java.util.List;
import java.util.Random;
import java.util.Set;

/**
 * Random runs of calls with numbers at the edges of what is told: none throws, what is refused (or NONE) changes nothing
 * but finding() and findings(), and a second object by the same calls answers the same.
 */
public final class EdgeTest {
    private static final int RUNS = 1500, CALLS = 350;
    private static final int FINDING = -3, STATE = -4, NONE = -9;
    private static final int[] EDGES = {Integer.MIN_VALUE, -129, -10, -1, 0, 0, 0, 1, 1, 1, 2, 2, 2, 3, 3, 4, 5, 6, 7, 8, 9, 10, 12, 13,
        19, 20, 21, 32, 39, 40, 41, 79, 80, 81, 98, 99, 100, 128, 255, 256, Integer.MAX_VALUE - 1, Integer.MAX_VALUE};
    private static final String[] CRAFTS = {"r4010 k21 o12 b23 h31 s12 w24 x00x13 y014y252y421y003", "r1205k10k21y002y113",
        "r9900b11b11b11b11b11b11", "r2000k11w12h21x20y013y103", "r0000", "r9999k11", "r3000s10s91b12y008y019x00", "", "r1"};
    /** Their answers are what was told: any number. */
    private static final Set<String> FREE = Set.of("asked", "upper", "digest");

    private final Random random;
    private final int run;
    private final KnotRopes x = new KnotRopes();
    private final KnotRopes twin = new KnotRopes();
    private final List<Method> face = new ArrayList<>();
    private int wrong;
    private int calls;

    private EdgeTest(int run) {
        this.run = run;
        random = new Random(run * 104729L + 7);
        for (Method m : KnotRopes.class.getMethods()) {
            if (m.getDeclaringClass() == KnotRopes.class) {
                face.add(m);
            }
        }
        face.sort(Comparator.comparing(Method::getName));
    }

    public static void main(String[] args) throws IllegalAccessException {
        int wrong = 0;
        for (int run = 0; run < RUNS && wrong < 5; run++) {
            EdgeTest test = new EdgeTest(run);
            test.drive();
            wrong += test.wrong;
        }
        System.out.println(wrong == 0 ? "no call throws, or changes what it may not" : wrong + " calls went wrong");
        if (wrong != 0) {
            System.exit(1);
        }
    }

    private void drive() throws IllegalAccessException {
        tell(random.nextInt(4), CRAFTS[random.nextInt(CRAFTS.length)]);
        while (calls < CALLS && wrong == 0) {
            if (random.nextInt(60) == 0) {
                tell(random.nextInt(4), CRAFTS[random.nextInt(CRAFTS.length)]);
            }
            Method method = face.get(random.nextInt(face.size()));
            Object[] values = new Object[method.getParameterCount()];
            for (int i = 0; i < values.length; i++) {
                values[i] = random.nextInt(3) == 0 ? EDGES[random.nextInt(EDGES.length)] : random.nextInt(6);
            }
            step(method, values);
        }
    }

    private void tell(int t, String text) {
        for (KnotRopes each : new KnotRopes[] {x, twin}) {
            each.text(t, text.length());
            for (int i = 0; i < text.length(); i++) {
                each.put(t, i, text.charAt(i));
            }
            each.craft(t);
        }
        calls += text.length() + 2;
    }

    private void step(Method method, Object[] values) throws IllegalAccessException {
        String call = method.getName() + java.util.Arrays.toString(values);
        long[] before = seen(x);
        try {
            long got = ((Number) method.invoke(x, values)).longValue();
            long again = ((Number) method.invoke(twin, values)).longValue();
            calls++;
            must(got == again, call + " answers " + got + " and " + again);
            if (!FREE.contains(method.getName())) {
                must(got >= STATE || got == NONE, call + " answers " + got);
                if (got < 0) {
                    unchanged(call, got, before, seen(x));
                }
            }
        } catch (InvocationTargetException e) {
            must(false, call + " threw " + e.getCause());
        }
    }

    /** What was told, the digest; the latest FINDING; how often there was each one. */
    private static long[] seen(KnotRopes object) {
        return new long[] {object.asked(), object.upper(), object.digest(), object.finding(), object.findings(1),
            object.findings(2), object.findings(3), object.findings(4), object.findings(5)};
    }

    private void unchanged(String call, long got, long[] before, long[] after) {
        if (got == FINDING) {
            before[3] = after[3];
            must(after[3] >= 1 && after[3] <= 5, call + ": finding() is " + after[3]);
            before[3 + (int) after[3]]++;
        }
        for (int i = 0; i < before.length; i++) {
            must(before[i] == after[i], call + " answered " + got + " and changed number " + i + ": " + before[i] + ", " + after[i]);
        }
    }

    private void must(boolean holds, String what) {
        if (!holds && wrong == 0) {
            wrong++;
            System.out.println("run " + run + ": " + what);
        }
    }
}
