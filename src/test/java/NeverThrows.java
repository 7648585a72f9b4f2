import java.lang.reflect.InvocationTargetException;
import java.lang.reflect.Method;
import java.lang.reflect.Modifier;
import java.util.ArrayList;
import java.util.Arrays;
import java.util.Comparator;
import java.util.List;
import java.util.Random;

/** Every method with arguments from everywhere, in long runs from fixed seeds: no call may throw. */
public final class NeverThrows {
    private static final int[] EDGES = {Integer.MIN_VALUE, Integer.MIN_VALUE + 1, -4097, -13, -2, -1, 12, 20, 23, 24, 43, 44,
        50, 60, 99, 100, 300, 999, 1000, 4095, 4096, Integer.MAX_VALUE - 1, Integer.MAX_VALUE};
    private static final String TEXT = "not bars>0 or (lines=-1);must parts<7;harm took*2+land;";

    public static void main(String[] args) throws IllegalAccessException {
        List<Method> methods = new ArrayList<>();
        for (Method m : WordlessSigns.class.getDeclaredMethods()) {
            if (Modifier.isPublic(m.getModifiers())) {
                methods.add(m);
            }
        }
        // The order of reflection is free; the runs must be the same each time.
        methods.sort(Comparator.comparing(Method::getName));
        int wrong = 0;
        for (int seed = 0; seed < 60; seed++) {
            Random random = new Random(seed);
            WordlessSigns x = new WordlessSigns();
            for (int i = 0; i < 3000; i++) {
                wrong += callOne(x, methods.get(random.nextInt(methods.size())), random, seed % 4) ? 0 : 1;
            }
        }
        System.out.println(wrong == 0 ? "no call threw" : wrong + " calls threw");
        if (wrong != 0) {
            System.exit(1);
        }
    }

    private static boolean callOne(WordlessSigns x, Method m, Random random, int wildness) throws IllegalAccessException {
        // A full image is kept for long, or the object would be blank most of the time.
        if (m.getName().equals("back") && random.nextInt(20) > 0) {
            return true;
        }
        Object[] args = new Object[m.getParameterCount()];
        for (int i = 0; i < args.length; i++) {
            args[i] = m.getParameterTypes()[i] == boolean.class ? (Object) random.nextBoolean() : argument(random, wildness);
        }
        if (m.getName().equals("feed") && random.nextBoolean()) {
            int at = random.nextInt(TEXT.length() / 20) * 20;
            for (int i = 0; i < 5; i++) {
                args[i] = TEXT.charAt(at + 4 * i) << 24 | TEXT.charAt(at + 4 * i + 1) << 16
                        | TEXT.charAt(at + 4 * i + 2) << 8 | TEXT.charAt(at + 4 * i + 3);
            }
        }
        try {
            m.invoke(x, args);
            return true;
        } catch (InvocationTargetException e) {
            System.out.println(m.getName() + Arrays.toString(args) + " threw " + e.getCause());
            return false;
        }
    }

    private static int argument(Random random, int wildness) {
        int which = random.nextInt(12);
        if (which < wildness) {
            return which == 0 ? random.nextInt() : EDGES[random.nextInt(EDGES.length)];
        }
        int[] bounds = {2, 4, 6, 12, 24};
        return random.nextInt(bounds[random.nextInt(bounds.length)]);
    }
}
