import java.io.IOException;
import java.lang.reflect.InvocationTargetException;
import java.lang.reflect.Method;
import java.lang.reflect.Modifier;
import java.nio.file.Files;
import java.nio.file.Path;
import java.util.ArrayList;
import java.util.HashMap;
import java.util.List;
import java.util.Map;
import java.util.NoSuchElementException;
import java.util.Set;
import java.util.TreeSet;
import java.util.regex.Matcher;
import java.util.regex.Pattern;
import java.util.stream.Stream;

/** README.md tells the calls, what they refuse, the classes and the tests as they stand. */
public final class ReadmeTest {
    private static final Due D = new Due();
    private static final Map<String, Method> FACE = new HashMap<>();

    public static void main(String[] args) throws IOException, IllegalAccessException {
        for (Method m : DitchOpen.class.getDeclaredMethods()) {
            if (Modifier.isPublic(m.getModifiers())) {
                FACE.put(m.getName(), m);
            }
        }
        List<String> lines = Files.readAllLines(Path.of("README.md"));
        example(lines);
        calls(lines);
        same("classes", namesBehind(lines, "| class "), classes());
        same("tests", namesBehind(lines, "| test "), tests());
        D.finish("ReadmeTest");
    }

    private static void same(String what, Set<String> told, Set<String> are) {
        D.due(what + " told " + told + " are " + are, told.equals(are), true);
    }

    /** Each call of the example answers as the comment behind it begins. */
    private static void example(List<String> lines) throws IllegalAccessException {
        Pattern call = Pattern.compile("x\\.(\\w+)\\((.*)\\); +// ([^:]+)(:.*)?");
        DitchOpen x = new DitchOpen();
        int answered = 0;
        for (String line : lines) {
            if (line.startsWith("x.")) {
                Matcher m = call.matcher(line);
                boolean isCall = m.matches() && FACE.containsKey(m.group(1));
                D.due(line + " is a call with its answer", isCall, true);
                if (isCall) {
                    Method method = FACE.get(m.group(1));
                    String answer = answer(x, method, arguments(method, m.group(2)));
                    D.due(line + " (it answers " + answer + ")", answer.equals(m.group(3)), true);
                    answered++;
                }
            }
        }
        D.due("the example has calls", answered > 0, true);
    }

    private static Object[] arguments(Method method, String told) {
        List<Object> arguments = new ArrayList<>();
        String[] parts = told.isEmpty() ? new String[0] : told.split(", ");
        for (int i = 0; i < parts.length; i++) {
            String part = parts[i].replace("DitchOpen.NONE", "-1");
            Class<?> type = method.getParameterTypes()[i];
            if (type == boolean.class) {
                arguments.add(Boolean.valueOf(part));
            } else if (type == long.class) {
                arguments.add(Long.valueOf(part.replace("L", "")));
            } else {
                arguments.add(Long.decode(part).intValue());
            }
        }
        return arguments.toArray();
    }

    private static String answer(DitchOpen x, Method method, Object[] arguments) throws IllegalAccessException {
        try {
            return String.valueOf(method.invoke(x, arguments));
        } catch (InvocationTargetException e) {
            return e.getCause() instanceof NoSuchElementException ? "throws" : String.valueOf(e.getCause());
        }
    }

    /** Each call of the face has one row, with its own parameters, and refuses as that tells. */
    private static void calls(List<String> lines) throws IllegalAccessException {
        Pattern row = Pattern.compile("\\| `(\\w+)\\((.*)\\)` \\| .+ \\| (\\S+) \\|");
        Set<String> told = new TreeSet<>();
        for (String line : lines) {
            Matcher m = row.matcher(line);
            if (m.matches()) {
                D.due(line + " is of the face, once", FACE.containsKey(m.group(1)) && told.add(m.group(1)), true);
                if (FACE.containsKey(m.group(1))) {
                    row(FACE.get(m.group(1)), m.group(2), m.group(3));
                }
            }
        }
        same("calls", told, new TreeSet<>(FACE.keySet()));
    }

    private static void row(Method method, String parameters, String refusal) throws IllegalAccessException {
        int many = parameters.isEmpty() ? 0 : parameters.split(", ").length;
        D.due(method.getName() + " takes " + parameters, many, method.getParameterCount());
        String due = refusal.replace("NONE", "-1").replace("HIDDEN", "-1000000");
        String answer = answer(fullTape(), method, farFromAny(method));
        D.due(method.getName() + " refused (it answers " + answer + ")", answer.equals(due), true);
    }

    /** Nothing dug, and no byte more can come to the tape: so each call has something to refuse. */
    private static DitchOpen fullTape() {
        DitchOpen x = new DitchOpen();
        Due.feed(x, "c".repeat(200));
        return x;
    }

    private static Object[] farFromAny(Method method) {
        Object[] arguments = new Object[method.getParameterCount()];
        for (int i = 0; i < arguments.length; i++) {
            Class<?> type = method.getParameterTypes()[i];
            arguments[i] = type == boolean.class ? (Object) true : type == long.class ? (Object) 0L : Integer.MIN_VALUE;
        }
        return arguments;
    }

    /** The names in the first column of the table whose head begins so. */
    private static Set<String> namesBehind(List<String> lines, String head) {
        Set<String> names = new TreeSet<>();
        boolean in = false;
        for (String line : lines) {
            in = line.startsWith(head) || (in && line.startsWith("|"));
            if (in) {
                Matcher m = Pattern.compile("`(\\w+)`").matcher(line.split("\\|")[1]);
                while (m.find()) {
                    names.add(m.group(1));
                }
            }
        }
        return names;
    }

    private static Set<String> classes() {
        Set<String> names = new TreeSet<>();
        for (Class<?> c : DitchOpen.class.getDeclaredClasses()) {
            names.add(c.getSimpleName());
        }
        return names;
    }

    private static Set<String> tests() throws IOException {
        Set<String> names = new TreeSet<>();
        try (Stream<Path> files = Files.list(Path.of("src/test/java"))) {
            for (Path file : (Iterable<Path>) files::iterator) {
                String name = file.getFileName().toString();
                if (name.endsWith("Test.java")) {
                    names.add(name.replace(".java", ""));
                }
            }
        }
        return names;
    }
}
