import java.lang.reflect.InvocationTargetException;
import java.lang.reflect.Method;
import java.util.Arrays;
import java.util.Comparator;
import java.util.Random;

/** Whatever is asked, of an object that is full, empty or between: no call throws (LANGUAGE.md, rule 7). */
public final class NeverThrowsTest {
    private static final int[] EDGES = {
        Integer.MIN_VALUE, Integer.MIN_VALUE + 1, -1001, -100, -51, -10, -9, -3, -2, -1, 0, 1, 2, 3, 4, 5, 6,
        7, 8, 9, 10, 11, 12, 13, 20, 21, 39, 40, 41, 50, 240, 241, 13823, 13824, 1000000, 1000001, 1 << 30,
        Integer.MAX_VALUE - 1, Integer.MAX_VALUE,
    };
    private static final Random RANDOM = new Random(8);
    private static final Check CHECK = new Check("NeverThrowsTest");

    public static void main(String[] args) throws IllegalAccessException {
        Method[] methods = DragonJars.class.getDeclaredMethods();
        Arrays.sort(methods, Comparator.comparing(Method::getName));
        for (int run = 0; run < 80; run++) {
            DragonJars x = new DragonJars();
            if (run % 4 > 0) {
                fill(x, run % 4);
            }
            for (int call = 0; call < 400; call++) {
                Method method = methods[RANDOM.nextInt(methods.length)];
                if (java.lang.reflect.Modifier.isPublic(method.getModifiers())) {
                    callOne(x, method);
                }
            }
        }
        CHECK.finish();
    }

    /** All houses, pillars, shakes, sheets that there can be, and all reports, or some fewer. */
    private static void fill(DragonJars x, int how) {
        for (int h = 0; h < 8; h++) {
            CHECK.due("house", x.house(h % 3, (5 * h) % 12, (7 * h) % 12, 5 + 3 * h, 1 + 2 * h), h);
            x.clock(h, 2 * h - 7, 2 * h);
            for (int p = 0; p < 6; p++) {
                CHECK.due("pillar", x.pillar(h, 3 + 8 * p, p - 1), p);
            }
        }
        for (int k = 0; k < 12; k++) {
            CHECK.due("shake", x.shake(k, (3 * k) % 12, k % 4, 12 - k, k % 2, 40 * k), k);
        }
        for (int r = 0; r < (how == 3 ? 16 : 40); r++) {
            int v = how == 1 ? 30 * r : 2;
            CHECK.due("report", x.report(how == 1 ? 2 : r % 5, r % 8, r % 6, v), r);
        }
        for (int k = 0; k < 4; k++) {
            x.sheet(k, k % 3, 40);
            for (int i = 0; i < 40; i++) {
                x.put(k, i, 1 + i);
            }
        }
        CHECK.due("which", Math.min(0, x.which(0, 3, 0, 0, 32, 8, 0) + 3), 0);
    }

    private static void callOne(DragonJars x, Method method) throws IllegalAccessException {
        Class<?>[] types = method.getParameterTypes();
        Object[] with = new Object[types.length];
        boolean wild = RANDOM.nextInt(3) == 0;
        for (int i = 0; i < with.length; i++) {
            int number = wild ? EDGES[RANDOM.nextInt(EDGES.length)] : RANDOM.nextInt(9);
            with[i] = types[i] == boolean.class ? (Object) RANDOM.nextBoolean() : (Object) number;
        }
        boolean threw = false;
        try {
            method.invoke(x, with);
        } catch (InvocationTargetException e) {
            threw = true;
            e.getCause().printStackTrace(System.out);
        }
        CHECK.dueTrue(method.getName() + Arrays.toString(with) + " answers", !threw);
    }
}
