import java.lang.reflect.Array;
import java.lang.reflect.Field;
import java.lang.reflect.Modifier;
import java.util.ArrayList;
import java.util.LinkedHashSet;
import java.util.List;
import java.util.Set;

/**
 * Each index is looked at against the row that it is used on: with any one row inside cut short, in all
 * objects that have it, no call throws. What calls answer then is free.
 */
public final class RowsTest {
    private static final Due D = new Due();

    public static void main(String[] args) throws IllegalAccessException {
        Set<Field> rows = new LinkedHashSet<>();
        rowsOf(new DitchOpen(), rows, new ArrayList<>());
        for (Field row : rows) {
            for (int run = 0; run < 48; run++) {
                cut(row, run, false);
                if (row.getType().getComponentType().isArray()) {
                    cut(row, run, true);
                }
            }
        }
        D.due("rows found", rows.size() >= 15, true);
        D.finish("RowsTest");
    }

    private static void cut(Field row, int run, boolean inner) throws IllegalAccessException {
        int eighths = run % 8;
        DitchOpen x = new DitchOpen();
        List<Object> all = new ArrayList<>();
        rowsOf(x, new LinkedHashSet<>(), all);
        for (Object owner : all) {
            if (owner.getClass() == row.getDeclaringClass()) {
                Object old = row.get(owner);
                if (inner) {
                    for (int i = 0; i < Array.getLength(old); i++) {
                        Array.set(old, i, shorter(Array.get(old, i), eighths));
                    }
                } else {
                    row.set(owner, shorter(old, eighths));
                }
            }
        }
        String name = row.getDeclaringClass().getSimpleName() + "." + row.getName() + (inner ? "[]" : "");
        D.due(name + " cut to " + eighths + " eighths threw", threw(x, run), false);
    }

    private static boolean threw(DitchOpen x, int run) {
        try {
            if (run % 16 < 8) {
                plainest(x);
            }
            return AnyArgumentsTest.threw(x, new Draws(run + 7));
        } catch (RuntimeException e) {
            System.out.println("threw " + e);
            return true;
        }
    }

    /** Texts so short that most rows cut still hold them. */
    private static void plainest(DitchOpen x) {
        String[] texts = {"c,c", "y:h", "5"};
        for (int sort = 0; sort < texts.length; sort++) {
            Due.feed(x, texts[sort]);
            x.text(sort);
            x.end(0);
        }
        x.dig(0, 0, DitchOpen.NONE, 5L);
    }

    private static Object shorter(Object row, int eighths) {
        int length = Array.getLength(row) * eighths / 8;
        Object cut = Array.newInstance(row.getClass().getComponentType(), length);
        for (int i = 0; i < length; i++) {
            Array.set(cut, i, Array.get(row, i));
        }
        return cut;
    }

    /** All rows of an object and of those in it, and all these objects. */
    private static void rowsOf(Object owner, Set<Field> rows, List<Object> all) throws IllegalAccessException {
        if (owner == null || all.contains(owner)) {
            return;
        }
        all.add(owner);
        for (Field f : owner.getClass().getDeclaredFields()) {
            if (Modifier.isStatic(f.getModifiers()) || f.getType().isPrimitive()) {
                continue;
            }
            f.setAccessible(true);
            Object held = f.get(owner);
            if (!f.getType().isArray()) {
                rowsOf(held, rows, all);
                continue;
            }
            rows.add(f);
            for (int i = 0; !f.getType().getComponentType().isPrimitive() && i < Array.getLength(held); i++) {
                if (!f.getType().getComponentType().isArray()) {
                    rowsOf(Array.get(held, i), rows, all);
                }
            }
        }
    }
}
