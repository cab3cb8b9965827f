import java.util.Arrays;
import java.util.TreeMap;
import java.util.TreeSet;
import java.util.function.Supplier;

/**
 * Boundaries, each under its promise's number and its name in the document: what is due at it and on
 * both sides, and that a call that is refused, or asks alone, leaves all as it was.
 */
final class Edge {
    /** A call of the face; a truth counts 1 or 0. */
    interface Call {
        long on(DitchOpen x);
    }

    /** A call of the face with one number of it open. */
    interface With {
        long on(DitchOpen x, int v);
    }

    private final Due due = new Due();
    private final TreeMap<Integer, TreeSet<String>> boundaries = new TreeMap<>();
    private String name = "";

    /** What is due from here on is due at this boundary of this promise. */
    void of(int promise, String boundary) {
        name = "Promise " + promise + ", " + boundary + ": ";
        if (!boundaries.computeIfAbsent(promise, p -> new TreeSet<>()).add(boundary)) {
            due.due(name + "a boundary of its own", false, true);
        }
    }

    void due(String what, long got, long want) {
        due.due(name + what, got, want);
    }

    void due(String what, boolean got, boolean want) {
        due.due(name + what, got, want);
    }

    static long bit(boolean truth) {
        return truth ? 1 : 0;
    }

    /** The call answers so, and its object stands like a twin on which it was not made. */
    void changesNothing(String what, Supplier<DitchOpen> made, long answer, Call call) {
        DitchOpen asked = made.get();
        due(what, call.on(asked), answer);
        String twin = Standing.of(made.get());
        String stands = Standing.of(asked);
        due(what + " changes nothing", stands.equals(twin), true);
    }

    void refused(String what, Supplier<DitchOpen> made, long refusal, Call call) {
        changesNothing(what + " (refused)", made, refusal, call);
    }

    /** The call leaves its object as it was, and answers the same again. */
    void apart(String what, Supplier<DitchOpen> made, Call call) {
        DitchOpen asked = made.get();
        long answer = call.on(asked);
        due(what + " again", call.on(asked), answer);
        changesNothing(what, made, answer, call);
    }

    /** Refused beside least .. most and far from it. */
    void refusedBeside(Supplier<DitchOpen> made, int least, int most, long refusal, With call) {
        int[] wrong = {Integer.MIN_VALUE, least - 1, most + 1, Integer.MAX_VALUE};
        for (int v : wrong) {
            refused("with " + v, made, refusal, x -> call.on(x, v));
        }
    }

    /** Asked at least and most, which changes nothing; refused beside them. */
    void asks(Supplier<DitchOpen> made, int least, long atLeast, int most, long atMost, long refusal, With call) {
        changesNothing("with " + least, made, atLeast, x -> call.on(x, least));
        changesNothing("with " + most, made, atMost, x -> call.on(x, most));
        refusedBeside(made, least, most, refusal, call);
    }

    /** Done at least and most; refused beside them. */
    void does(Supplier<DitchOpen> made, int least, long atLeast, int most, long atMost, long refusal, With call) {
        due("with " + least, call.on(made.get(), least), atLeast);
        due("with " + most, call.on(made.get(), most), atMost);
        refusedBeside(made, least, most, refusal, call);
    }

    /** Ends with exit code 1 if an answer was not as due, or if a promise of these had no boundary here. */
    void finish(String test, int... promises) {
        int many = 0;
        for (TreeSet<String> names : boundaries.values()) {
            many += names.size();
        }
        due.due(test + ": promises " + boundaries.keySet() + " are " + Arrays.toString(promises),
            Arrays.equals(boundaries.keySet().stream().mapToInt(p -> p).toArray(), promises), true);
        System.out.println(test + ": " + many + " boundaries");
        due.finish(test);
    }
}
