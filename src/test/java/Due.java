/** What the tests share: telling which answers are not as due, and feeding texts. */
final class Due {
    private int asked = 0;
    private int wrong = 0;

    void due(String call, long got, long want) {
        asked++;
        if (got != want) {
            wrong++;
            if (wrong <= 40) {
                System.out.println(call + " answered " + got + ", due is " + want);
            }
        }
    }

    void due(String call, boolean got, boolean want) {
        due(call, got ? 1 : 0, want ? 1 : 0);
    }

    /** Asks reach, which alone may throw: due is that it does. */
    void dueThrow(DitchOpen x, int ditch, int reach, int what) {
        boolean thrown = false;
        try {
            x.reach(ditch, reach, what);
        } catch (java.util.NoSuchElementException e) {
            thrown = true;
        }
        due("reach(" + ditch + ", " + reach + ", " + what + ") throws", thrown, true);
    }

    /** Ends with exit code 1 if an answer was not as due, or if nothing was asked. */
    void finish(String test) {
        System.out.println(test + ": " + asked + " answers, " + wrong + " of them not as due");
        if (wrong != 0 || asked == 0) {
            System.exit(1);
        }
    }

    /** A new object with one ditch dug by one or two laws (slips null: none), and some rains told. */
    static DitchOpen dug(String ditch, String flow, String slips, String... rains) {
        DitchOpen x = new DitchOpen();
        text(x, 0, ditch);
        text(x, 1, flow);
        if (slips != null) {
            text(x, 1, slips);
        }
        for (String rain : rains) {
            text(x, 2, rain);
        }
        if (!x.dig(0, 0, slips == null ? -1 : 1, 5L)) {
            throw new IllegalStateException("not dug: " + ditch);
        }
        return x;
    }

    static int[] fives(String text) {
        int[] five = new int[5];
        for (int i = 0; i < text.length() && i < 20; i++) {
            five[i / 4] |= (text.charAt(i) & 255) << (24 - 8 * (i % 4));
        }
        return five;
    }

    /** Feeds a text, twenty bytes a call; what the last call answered. */
    static int feed(DitchOpen x, String text) {
        int answer = x.count(3);
        for (int from = 0; from < text.length(); from += 20) {
            int[] f = fives(text.substring(from));
            answer = x.feed(f[0], f[1], f[2], f[3], f[4]);
        }
        return answer;
    }

    static int text(DitchOpen x, int sort, String text) {
        x.end(0);
        feed(x, text);
        int answer = x.text(sort);
        if (answer < 0) {
            throw new IllegalStateException("no text of sort " + sort + ": " + text);
        }
        return answer;
    }

    static int fault(DitchOpen x, int sort, String text) {
        x.end(0);
        feed(x, text);
        int answer = x.fault(sort);
        x.end(0);
        return answer;
    }
}
