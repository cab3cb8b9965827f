/** FAULTS of drawn texts, against the document's grammar worked out another way. */
public final class FaultsTest {
    public static void main(String[] args) {
        Due d = new Due();
        Draws draws = new Draws(11);
        DitchOpen x = new DitchOpen();
        int right = 0;
        for (int i = 0; i < 9000; i++) {
            int sort = i % 3;
            String text = draws.text(sort);
            int due = Grammar.fault(sort, text);
            right += due == -1 ? 1 : 0;
            d.due("fault(" + sort + ") of \"" + text + "\"", Due.fault(x, sort, text), due);
        }
        d.due("some texts are right, some wrong", right > 1500 && right < 7500, true);
        deepOnes(d, x);
        d.finish("FaultsTest");
    }

    /** Six within one another go, the seventh is the FAULT, whichever of the three they are. */
    private static void deepOnes(Due d, DitchOpen x) {
        Draws draws = new Draws(12);
        for (int i = 0; i < 600; i++) {
            StringBuilder t = new StringBuilder("y:");
            int many = draws.from(4, 8);
            for (int k = 0; k < many; k++) {
                t.append(t.charAt(t.length() - 1) == '[' ? '[' : draws.of("!(["));
            }
            t.append("d");
            for (int k = draws.below(8); k > 0; k--) {
                t.append(draws.of(")]=1&"));
            }
            d.due("fault(1) of \"" + t + "\"", Due.fault(x, 1, t.toString()), Grammar.fault(1, t.toString()));
        }
    }
}
