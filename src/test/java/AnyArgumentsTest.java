import java.lang.reflect.InvocationTargetException;
import java.lang.reflect.Method;
import java.util.ArrayList;
import java.util.Arrays;
import java.util.Comparator;
import java.util.List;
import java.util.NoSuchElementException;

/** Any arguments in any state: no call throws but reach, and that one only what it may. */
public final class AnyArgumentsTest {
    private static final int[] ODD = {Integer.MIN_VALUE, Integer.MIN_VALUE + 1, -1000000, -65, -2, -1, 0, 0, 0, 1, 1, 1, 2,
        2, 3, 4, 5, 6, 7, 9, 10, 12, 13, 19, 20, 21, 29, 30, 31, 32, 33, 62, 63, 64, 65, 98, 99, 100, 199, 200, 201, 998,
        999, 1000, 1 << 16, 1 << 30, Integer.MAX_VALUE - 1, Integer.MAX_VALUE};

    public static void main(String[] args) {
        Due d = new Due();
        for (int run = 0; run < 60; run++) {
            d.due("run " + run + " threw", threw(new DitchOpen(), new Draws(5000 + run)), false);
        }
        d.finish("AnyArgumentsTest");
    }

    private static List<Method> face() {
        List<Method> face = new ArrayList<>();
        for (Method m : DitchOpen.class.getDeclaredMethods()) {
            if (java.lang.reflect.Modifier.isPublic(m.getModifiers())) {
                face.add(m);
            }
        }
        face.sort(Comparator.comparing(Method::getName));
        return face;
    }

    /** Whether one of so many drawn calls throws what it may not. */
    static boolean threw(DitchOpen x, Draws draws) {
        List<Method> face = face();
        for (int call = 0; call < 700; call++) {
            if (draws.oneIn(25)) {
                int sort = draws.below(3);
                x.end(0);
                Due.feed(x, sort == 0 ? draws.ditch(draws.from(2, 20), 6) : sort == 1 ? draws.law() : draws.rain(4));
                x.text(sort);
                x.dig(draws.below(4), draws.below(6), draws.from(-1, 5), draws.whole());
            }
            if (draws.oneIn(60)) {
                x.end(0);
                Due.feed(x, draws.text(draws.below(3)));
            }
            Method m = face.get(draws.below(face.size()));
            Object[] with = with(m, draws);
            try {
                m.invoke(x, with);
            } catch (InvocationTargetException e) {
                if (!(m.getName().equals("reach") && e.getCause().getClass() == NoSuchElementException.class)) {
                    System.out.println(m.getName() + Arrays.toString(with) + " threw " + e.getCause());
                    return true;
                }
            } catch (IllegalAccessException e) {
                return true;
            }
        }
        return false;
    }

    private static Object[] with(Method m, Draws draws) {
        Class<?>[] types = m.getParameterTypes();
        Object[] with = new Object[types.length];
        for (int i = 0; i < types.length; i++) {
            if (types[i] == boolean.class) {
                with[i] = draws.oneIn(2);
            } else if (types[i] == long.class) {
                with[i] = draws.whole();
            } else {
                with[i] = draws.oneIn(2) ? draws.below(4) : ODD[draws.below(ODD.length)];
            }
        }
        return with;
    }
}
