import java.io.IOException;
import java.lang.reflect.Executable;
import java.lang.reflect.Field;
import java.lang.reflect.Method;
import java.lang.reflect.Modifier;
import java.nio.file.Files;
import java.nio.file.Path;
import java.util.ArrayList;
import java.util.Arrays;
import java.util.List;
import java.util.Set;
import java.util.TreeSet;

/** The rules of LANGUAGE.md that can be looked at: the face, the classes inside, what stands in the source. */
public final class LanguageTest {
    private static final Due D = new Due();
    private static final String FACE = "feed/5 end/1 fault/1 text/1 reach/3 rain/2 set/2 dig/4 day/1 run/1 at/2 all/1"
        + " owner/2 clean/1 shut/2 tried/3 costs/3 first/1 when/2 has/6 rests/5 best/4 staff/2 where/3 off/2 falls/6"
        + " sands/3 sinks/4 raised/3 every/4 order/2 turn/1 whose/3 work/1 notch/2 hit/2 longest/1 banks/4 rise/2"
        + " image/0 back/0 count/1";

    public static void main(String[] args) throws IOException {
        List<Class<?>> classes = new ArrayList<>(Arrays.asList(DitchOpen.class.getDeclaredClasses()));
        for (Class<?> inside : classes) {
            D.due(inside + " is static", Modifier.isStatic(inside.getModifiers()), true);
            D.due(inside + " is not public", inside.getModifiers() & (Modifier.PUBLIC | Modifier.PROTECTED), 0);
        }
        classes.add(DitchOpen.class);
        D.due("classes", classes.size() <= 12, true);
        face();
        for (Class<?> c : classes) {
            members(c);
        }
        source(Files.readAllLines(Path.of("src/main/java/DitchOpen.java")));
        D.finish("LanguageTest");
    }

    private static void face() {
        Set<String> found = new TreeSet<>();
        for (Method m : DitchOpen.class.getDeclaredMethods()) {
            if (!Modifier.isPrivate(m.getModifiers())) {
                found.add(m.getName() + "/" + m.getParameterCount());
                D.due(m + " is public", Modifier.isPublic(m.getModifiers()), true);
            }
        }
        D.due("the face's methods: " + found, found.equals(new TreeSet<>(Arrays.asList(FACE.split(" ")))), true);
        Set<String> fields = new TreeSet<>();
        for (Field f : DitchOpen.class.getDeclaredFields()) {
            if (!Modifier.isPrivate(f.getModifiers())) {
                fields.add(f.getName());
            }
        }
        D.due("the face's constants: " + fields, fields.equals(Set.of("NONE", "HIDDEN")), true);
    }

    private static void members(Class<?> c) {
        Set<String> names = new TreeSet<>();
        for (String method : FACE.split(" ")) {
            names.add(method.substring(0, method.indexOf('/')));
        }
        int fields = 0;
        for (Field f : c.getDeclaredFields()) {
            boolean isStatic = Modifier.isStatic(f.getModifiers());
            fields += isStatic ? 0 : 1;
            D.due(f + " is final if static", !isStatic || Modifier.isFinal(f.getModifiers()), true);
        }
        D.due(c + " has some twenty fields", fields <= 20, true);
        List<Executable> all = new ArrayList<>(Arrays.asList(c.getDeclaredMethods()));
        all.addAll(Arrays.asList(c.getDeclaredConstructors()));
        for (Executable e : all) {
            D.due(e + " takes seven at most", e.getParameterCount() <= 7, true);
            boolean isFace = c == DitchOpen.class && Modifier.isPublic(e.getModifiers());
            D.due(e + " bears no face's name", isFace || !names.contains(e.getName()), true);
        }
    }

    private static void source(List<String> lines) {
        String[] no = {"->", "::", "Exact(", "finally", "synchronized", "assert ", "static {", "instanceof", "double",
            "float", "System.out", "System.nano", "System.current", "Random", "Thread", "catch", "package ", "@",
            "getMessage", "hashCode", "toString", "\" +", "+ \"", "var ", "record ", "yield "};
        int begin = -1;
        for (int i = 0; i < lines.size(); i++) {
            String line = lines.get(i);
            for (String sign : no) {
                D.due("line " + (i + 1) + " without " + sign, line.contains(sign), false);
            }
            if (line.startsWith("import ")) {
                D.due(line, line.equals("import java.util.NoSuchElementException;"), true);
            }
            D.due("line " + (i + 1) + " in signs 1 to 127", line.chars().allMatch(c -> c < 128), true);
            // A method begins at a line that ends with a bracket and a brace, and ends at a brace as far in.
            if (line.matches("( {4}| {8})\\S.*\\) (throws \\w+ )?\\{")) {
                begin = i;
            }
            if (begin >= 0 && line.equals(lines.get(begin).replaceAll("\\S.*", "") + "}")) {
                D.due("method at line " + (begin + 1) + " is short", i - begin < 60, true);
                begin = -1;
            }
        }
    }
}
