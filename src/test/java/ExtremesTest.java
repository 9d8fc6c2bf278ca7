import java.lang.reflect.Method;
import java.util.Arrays;
import java.util.Comparator;

/** No call throws, whatever its arguments are: all methods by luck with numbers near and far. */
public final class ExtremesTest {
    private static final int[] FAR = {Integer.MIN_VALUE, Integer.MIN_VALUE + 1, -1000000, -201, -60, -2, -1, 0, 1, 2, 3, 4, 5,
        6, 7, 8, 13, 14, 29, 30, 31, 59, 60, 61, 99, 100, 200, 201, 999, 1000, 1001, 1600, 100000, 715827882, 1073741824,
        Integer.MAX_VALUE - 1, Integer.MAX_VALUE};

    public static void main(String[] args) {
        Checks.part("extremes");
        Method[] methods = QuarrelMiles.class.getMethods();
        Arrays.sort(methods, Comparator.comparing(Method::getName));
        int calls = 0;
        for (int seed = 0; seed < 400; seed++) {
            Luck luck = new Luck(77777L + seed);
            QuarrelMiles x = new QuarrelMiles();
            if (seed % 4 != 0) {
                Checks.put(x, Texts.sound(luck, seed % 3));
                x.land();
            }
            for (int i = 0; i < 512; i++) {
                Method m = methods[luck.below(methods.length)];
                if (m.getDeclaringClass() == QuarrelMiles.class && !(isSlow(m) && luck.below(8) != 0)) {
                    call(x, m, luck, seed);
                    calls++;
                }
            }
        }
        Checks.due("calls", calls > 100000, true);
        Checks.close();
    }

    private static boolean isSlow(Method m) {
        return m.getName().equals("temper") || m.getName().equals("home") || m.getName().equals("cover");
    }

    private static void call(QuarrelMiles x, Method m, Luck luck, int seed) {
        Class<?>[] types = m.getParameterTypes();
        Object[] args = new Object[types.length];
        for (int i = 0; i < args.length; i++) {
            int number = luck.oneIn(2) ? luck.below(4) : FAR[luck.below(FAR.length)];
            args[i] = types[i] == boolean.class ? (Object) luck.oneIn(2) : (Object) number;
        }
        try {
            m.invoke(x, args);
        } catch (ReflectiveOperationException e) {
            Checks.due("run " + seed + ": " + m.getName() + " " + Arrays.toString(args) + " threw " + e.getCause(), 1, 0);
        }
    }
}
