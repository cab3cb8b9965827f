/** Boundaries of section 5: years, orders, silt, work, rows, sets, fields; promises 31 to 40. */
public final class WorkEdgesTest {
    private static final Edge E = new Edge();
    private static final int HIDDEN = -1000000;

    public static void main(String[] args) {
        everyRefused();
        everyEnds();
        orderRefused();
        orderDays();
        turnRefused();
        turnOwners();
        turnTies();
        whoseRefused();
        whose();
        workRefused();
        workReeds();
        notchRefused();
        notchMen();
        notchTies();
        hitRefused();
        hitBounds();
        hitCut();
        longestRefused();
        longestTies();
        banksRefused();
        banksBounds();
        riseRefused();
        riseBounds();
        E.finish("WorkEdgesTest", 31, 32, 33, 34, 35, 36, 37, 38, 39, 40);
    }

    // ---- Promise 31

    /** Mud 9 a year in two reaches, wet above 15: by a rain of one day (0), of two (1). */
    private static DitchOpen rising() {
        DitchOpen x = Due.dug("cb0w9f15,cb0w9f15", "y:0", null, "1", "1,0");
        x.set(1, 9);
        return Made.kept(x);
    }

    private static void everyRefused() {
        E.of(31, "NONE: no such RAIN");
        E.asks(WorkEdgesTest::rising, 0, 54, 1, 54, -1, (x, v) -> x.every(v, 99, 4, 1));
        E.of(31, "PRICE 0 .. 99");
        // Four years: 1 costs 54, 2: 36 and 4 harm, 3: 54 and 4, 4 and more: 6 harm.
        E.asks(WorkEdgesTest::rising, 0, 4, 99, 1, -1, (x, v) -> x.every(0, v, 4, 0));
        E.asks(WorkEdgesTest::rising, 0, 0, 99, 54, -1, (x, v) -> x.every(0, v, 4, 1));
        E.of(31, "YEARS 1 .. 12");
        E.asks(WorkEdgesTest::rising, 1, 0, 12, 198, -1, (x, v) -> x.every(0, 99, v, 1));
        E.asks(WorkEdgesTest::rising, 1, 1, 12, 1, -1, (x, v) -> x.every(0, 99, v, 0));
        E.of(31, "NONE: no such what");
        E.asks(WorkEdgesTest::rising, 0, 1, 1, 54, -1, (x, v) -> x.every(0, 99, 4, v));
        E.of(31, "NONE: nothing dug");
        E.refused("k", Made::told, -1, x -> x.every(0, 1, 1, 0));
        E.refused("cost", Made::told, -1, x -> x.every(0, 1, 1, 1));
    }

    private static void every(String why, DitchOpen x, int price, int years, int k, int cost) {
        E.due(why + ": k", x.every(0, price, years, 0), k);
        E.due(why + ": cost", x.every(0, price, years, 1), cost);
    }

    private static void everyEnds() {
        E.of(31, "of several the lowest");
        every("one year: all alike", rising(), 99, 1, 1, 0);
        every("two years: 2 and more alike", rising(), 0, 2, 2, 0);
        every("three years: 3 and more alike", rising(), 0, 3, 3, 0);
        every("five years: 5 and 6 alike", rising(), 0, 5, 5, 0);
        // Two years: 1 costs 18, 2 and more two harm.
        every("two years, price 8", rising(), 8, 2, 2, 16);
        every("two years, price 9: all alike", rising(), 9, 2, 1, 18);
        every("two years, price 10", rising(), 10, 2, 1, 18);
        E.of(31, "k 1 .. 6");
        every("six years: 6 cleans once", rising(), 0, 6, 6, 0);
        every("seven years: 6 cleans twice", rising(), 0, 7, 4, 72);
        // 1: 198, 2: 180, 3: 162, 4: 144, 5: 180, 6: 108; 7 would be 126, 12 none.
        every("twelve years: 6", rising(), 0, 12, 6, 108);
        E.of(31, "ahead of YEAR 0");
        DitchOpen x = rising();
        x.day(1);
        every("what lies there, by each k", x, 0, 1, 1, 18);
        every("and ahead of YEAR k", x, 0, 2, 2, 18);
        E.of(31, "REEDS by 10 and YEARS of 30 DAYS");
        x = Due.dug("cb0w9f99,cb0w9f99", "y:0", null, "0" + ",0".repeat(29));
        x.set(2, 1);
        every("three years", x, 0, 3, 3, 0);
        every("four years", x, 0, 4, 4, 0);
        // Reeds are 30 behind a year, 99 behind four: 1, 2 and 3 cost 36, 4 and more clean once, by 9 each.
        every("seven years: reeds are 99 at most", x, 0, 7, 4, 18);
    }

    // ---- Promise 32

    /** Level 10 each, wet above 5 until they are cleaned; owner 2 has two; dry days: 1, 2, 3 and 4. */
    private static DitchOpen orders() {
        return Made.kept(Made.still("cb0w1f5,cb0w1f5o1,cb0w1f5o2,cb0w1f5o2", "0", "0,0", "0,0,0", "0,0,0,0"));
    }

    private static void orderRefused() {
        E.of(32, "NONE: no such RAIN");
        E.asks(WorkEdgesTest::orders, 0, 3, 3, 5, -1, (x, v) -> x.order(v, false));
        E.asks(WorkEdgesTest::orders, 0, 2, 3, 3, -1, (x, v) -> x.order(v, true));
        E.of(32, "NONE: nothing dug");
        E.refused("up", Made::told, -1, x -> x.order(0, false));
        E.refused("down", Made::told, -1, x -> x.order(0, true));
    }

    private static void orderDays() {
        E.of(32, "who has no DAY left does not");
        // Up: 0 + 1 + 2 * 2 when all have theirs; down: 2 * 0 + 1 + 2.
        int[] up = {0 + 1 + 2, 0 + 1 + 4, 0 + 1 + 4, 0 + 1 + 4};
        int[] down = {0 + 1 + 1, 0 + 1 + 2, 0 + 1 + 2, 0 + 1 + 2};
        for (int rain = 0; rain < 4; rain++) {
            E.due(rain + 1 + " days, up", orders().order(rain, false), up[rain]);
            E.due(rain + 1 + " days, down", orders().order(rain, true), down[rain]);
        }
        E.of(32, "OWNERS (0 .. the greatest told): one, six");
        DitchOpen x = Made.still("cb0w1f5,cb0w1f5", "0,0");
        E.due("one, up", x.order(0, false), 0);
        E.due("one, down", x.order(0, true), 0);
        x = Made.still("cb0w1f5o5,cb0w1f5o5", "0,0,0,0,0", "0,0,0,0,0,0", "0,0,0,0,0,0,0");
        E.due("the sixth has no day", x.order(0, false), 10);
        E.due("the sixth has the last", x.order(1, false), 10);
        E.due("a day behind it", x.order(2, false), 10);
        E.due("down it is the first", x.order(2, true), 0);
    }

    // ---- Promise 33

    private static void turnRefused() {
        E.of(33, "NONE: no such RAIN");
        // One day: 2 is first, then it is all the same; more: 2, 0, 1.
        E.asks(WorkEdgesTest::orders, 0, 201, 3, 201, -1, DitchOpen::turn);
        E.of(33, "NONE: nothing dug");
        E.refused("turn", Made::told, -1, x -> x.turn(0));
    }

    private static void turnOwners() {
        E.of(33, "NONE: more than four OWNERS");
        int[] due = {0, 10, 201, 3012, -1, -1};
        for (int greatest = 0; greatest <= 5; greatest++) {
            String ditch = "cb0w1f5o" + greatest + ",cb0w1f5o" + greatest;
            E.changesNothing(greatest + 1 + " owners", () -> Made.kept(Made.still(ditch, "0,0,0,0,0,0")), due[greatest],
                x -> x.turn(0));
        }
    }

    private static void turnTies() {
        E.of(33, "of several the least as digits");
        DitchOpen x = Made.still("cb0w1f99,cb0w1f99o1,cb0w1f99o2,cb0w1f99o3", "0,0,0,0");
        E.due("all alike, four", x.turn(0), 123);
        x = Made.still("cb0w1f99,cb0w1f99o2", "0,0,0");
        E.due("all alike, three", x.turn(0), 12);
        x = Made.still("cb0w1f99,cb0w1f99o1", "0,0");
        E.due("all alike, two", x.turn(0), 1);
        x = Made.still("cb0w1f99,cb0w1f99", "0");
        E.due("one", x.turn(0), 0);
        E.of(33, "the first OWNER the highest");
        x = Made.still("cb0w1f5o3,cb0w1f5o3,cb0w1f5o3,cb0w1f5o3,cb0w1f5o2,cb0w1f5o2,cb0w1f5o2,cb0w1f5o1,cb0w1f5o1,cb0w1f5",
            "0,0,0,0");
        E.due("3, 2, 1, 0", x.turn(0), 3210);
        x = Made.still("cb0w1f5,cb0w1f5,cb0w1f5o3,cb0w1f99o1", "0,0,0,0");
        E.due("0, 3, then 1, 2", x.turn(0), 312);
        E.of(33, "each OWNER once");
        // Owner 0's mud of 27 keeps the head's water from owner 1's field: 1 twice would bring no harm, 1 and 0 bring 1.
        x = Made.heldBack("tb30w1o1f99,tb10w1f99,tb0w1o1f12", 3, 1, "2,0");
        x.shut(2, true);
        E.due("1, 0", x.turn(0), 10);
        E.due("harm then", x.order(0, true), 1);
        E.due("harm by 0, 1", x.order(0, false), 2);
        E.of(33, "DAYS fewer than OWNERS");
        x = Made.still("cb0w1f5o3,cb0w1f5o3,cb0w1f5o2,cb0w1f99", "0", "0,0", "0,0,0");
        E.due("one day: 3, then the least", x.turn(0), 3012);
        E.due("two days: 3, 2, then the least", x.turn(1), 3201);
        E.due("three days", x.turn(2), 3201);
    }

    // ---- Promise 34

    /** Turf lets the head's load of 3 go on, sand keeps it; a rain of 3 (0), a dry day (1). */
    private static DitchOpen silted() {
        DitchOpen x = Due.dug("tb10w1,sb0w1", "y:9", null, "3", "0");
        x.set(1, 3);
        x.day(3);
        return Made.kept(x);
    }

    private static void whoseRefused() {
        E.of(34, "HIDDEN: no such RAIN");
        E.asks(WorkEdgesTest::silted, 0, 3, 1, 0, HIDDEN, (x, v) -> x.whose(v, 1, 0));
        E.of(34, "HIDDEN: no such REACH");
        E.asks(WorkEdgesTest::silted, 0, 0, 1, 3, HIDDEN, (x, v) -> x.whose(0, v, 0));
        E.of(34, "HIDDEN: no such other REACH");
        E.asks(WorkEdgesTest::silted, 0, 0, 1, 0, HIDDEN, (x, v) -> x.whose(0, 0, v));
        E.asks(WorkEdgesTest::silted, 0, 3, 1, 3, HIDDEN, (x, v) -> x.whose(0, 1, v));
        E.of(34, "HIDDEN: nothing dug");
        E.refused("whose", Made::told, HIDDEN, x -> x.whose(0, 0, 0));
    }

    private static void whose() {
        E.of(34, "less that if another REACH got no SILT");
        DitchOpen x = silted();
        x.set(1, 0);
        E.due("silt 0", x.whose(0, 1, 0), 0);
        x.set(1, 1);
        E.due("silt 1", x.whose(0, 1, 0), 1);
        x.set(1, 9);
        E.due("silt 9", x.whose(0, 1, 1), 9);
        E.of(34, "what lies there is no SILT of the RAIN");
        E.due("mud there", silted().at(1, 2), 6);
        E.due("a dry day", silted().whose(1, 1, 0), 0);
        E.of(34, "MUD of a REACH below that if another got no SILT");
        // By its own 4 the last stands at 7 in the second round, flows 7 and is cut: 3 are left.
        // Without it stands at 3, flows 3, and the head's 4 settle.
        x = Due.dug("tb8w2,sb0w3", "y:d", null, "6");
        x.set(1, 4);
        E.due("of the last by its own", x.whose(0, 1, 1), -1);
        E.due("of the last by the head's", x.whose(0, 1, 0), 0);
        E.due("of the head", x.whose(0, 0, 0), 0);
    }

    // ---- Promise 35

    private static DitchOpen worked(int days) {
        DitchOpen x = Due.dug("cw1,sw1,tw1", "y:0", null, "0");
        x.set(2, 1);
        x.set(1, 2);
        for (int day = 0; day < days; day++) {
            x.day(day < 2 ? 1 : 0);
        }
        return Made.kept(x);
    }

    private static void workRefused() {
        E.of(35, "NONE: no such one (of all: reach NONE)");
        // Mud 4 and reeds 19: 5, times 3, 1, 2.
        E.asks(() -> worked(19), -1, 30, 2, 10, -1, DitchOpen::work);
        E.of(35, "NONE: nothing dug");
        E.refused("work(0)", Made::told, -1, x -> x.work(0));
        E.refused("work(-1)", Made::told, -1, x -> x.work(-1));
    }

    private static void workReeds() {
        E.of(35, "REEDS by 10, cut");
        int[] days = {8, 9, 10, 11, 19, 20, 98, 99, 100};
        int[] tens = {0, 0, 1, 1, 1, 2, 9, 9, 9};
        for (int i = 0; i < days.length; i++) {
            E.due("reeds " + days[i], worked(days[i]).work(1), 4 + tens[i]);
        }
        E.of(35, "times 3 (clay), 1 (sand), 2 (turf)");
        int[] times = {3, 1, 2};
        for (int reach = 0; reach < 3; reach++) {
            E.due("none", worked(0).work(reach), 0);
            E.due("four of mud", worked(2).work(reach), 4 * times[reach]);
            E.due("four and a ten", worked(10).work(reach), 5 * times[reach]);
        }
        E.due("of all: none", worked(0).work(-1), 0);
        E.due("of all: 5 each", worked(10).work(-1), 30);
    }

    // ---- Promise 36

    /** Sand with mud 1 in each. */
    private static DitchOpen ones(int reaches) {
        DitchOpen x = Due.dug("s" + ",s".repeat(reaches - 1), "y:0", null, "0");
        x.day(1);
        return Made.kept(x);
    }

    private static void notchRefused() {
        E.of(36, "MEN 1 .. 6");
        E.asks(() -> ones(20), 1, 20, 6, 4, -1, (x, v) -> x.notch(v, -1));
        E.asks(() -> ones(20), 1, 0, 6, 0, -1, (x, v) -> x.notch(v, 0));
        for (int reaches = 2; reaches <= 7; reaches++) {
            int many = reaches;
            E.of(36, "NONE: more MEN than REACHES (" + reaches + ")");
            E.asks(() -> ones(many), 1, reaches, Math.min(6, reaches), reaches == 7 ? 2 : 1, -1, (x, v) -> x.notch(v, -1));
        }
        E.of(36, "the i-th row, the most WORK (i NONE)");
        E.asks(() -> ones(7), -1, 3, 2, 4, -1, (x, v) -> x.notch(3, v));
        E.asks(() -> ones(7), -1, 7, 0, 0, -1, (x, v) -> x.notch(1, v));
        E.asks(() -> ones(7), -1, 2, 5, 5, -1, (x, v) -> x.notch(6, v));
        E.of(36, "NONE: nothing dug");
        E.refused("the most", Made::told, -1, x -> x.notch(1, -1));
        E.refused("the first", Made::told, -1, x -> x.notch(1, 0));
    }

    private static void rows(String why, DitchOpen x, int most, int... begins) {
        E.due(why + ": the most", x.notch(begins.length, -1), most);
        for (int i = 0; i < begins.length; i++) {
            E.due(why + ": row " + i, x.notch(begins.length, i), begins[i]);
        }
        E.due(why + ": behind the last row", x.notch(begins.length, begins.length), -1);
    }

    private static void notchMen() {
        E.of(36, "none without REACHES");
        rows("two for two", ones(2), 1, 0, 1);
        rows("six for six", ones(6), 1, 0, 1, 2, 3, 4, 5);
        DitchOpen x = Due.dug("s,s,s,s", "y:0", null, "0");
        rows("no work", x, 0, 0, 1, 2);
        rows("no work, one", x, 0, 0);
        E.of(36, "all the WORK in one REACH");
        for (int at = 0; at < 4; at++) {
            StringBuilder ditch = new StringBuilder();
            for (int i = 0; i < 4; i++) {
                ditch.append(i > 0 ? "," : "").append(i == at ? "s" : "so1");
            }
            x = Due.dug(ditch.toString(), "y:0", null, "0");
            x.day(1);
            x.clean(1);
            // The first rows are as short as they can be.
            rows("at " + at, x, 1, 0, 1, 2);
        }
    }

    private static void notchTies() {
        E.of(36, "of several those whose first row is shortest, then the second, and so on");
        rows("seven by two", ones(7), 4, 0, 3);
        rows("seven by three", ones(7), 3, 0, 1, 4);
        rows("seven by four", ones(7), 2, 0, 1, 3, 5);
        rows("seven by five", ones(7), 2, 0, 1, 2, 3, 5);
        rows("six by three", ones(6), 2, 0, 2, 4);
        rows("five by three", ones(5), 2, 0, 1, 3);
        rows("twenty by six", ones(20), 4, 0, 1, 4, 8, 12, 16);
        rows("nineteen by six", ones(19), 4, 0, 1, 3, 7, 11, 15);
        // Clay 3, sand 1, turf 2.
        DitchOpen x = Due.dug("c,s,t,s,c,t", "y:0", null, "0");
        x.day(1);
        rows("3 1 2 1 3 2", x, 5, 0, 1, 4);
    }

    // ---- Promise 37

    /** The head has mud 9, the others none. */
    private static DitchOpen muddy(int reaches) {
        DitchOpen x = Due.dug("c" + ",co1".repeat(reaches - 1), "y:0", null, "0");
        x.set(1, 9);
        x.day(1);
        x.clean(1);
        return Made.kept(x);
    }

    private static void hitRefused() {
        E.of(37, "so many 1 .. 4");
        E.asks(() -> muddy(5), 1, 200000, 4, 800000, -1, (x, v) -> x.hit(8, v));
        for (int reaches = 2; reaches <= 4; reaches++) {
            int many = reaches;
            E.of(37, "NONE: more than REACHES (" + reaches + ")");
            E.asks(() -> muddy(many), 1, 1000000 / reaches, reaches, 1000000, -1, (x, v) -> x.hit(8, v));
        }
        E.of(37, "a bound 0 .. 999");
        E.asks(() -> muddy(4), 0, 250000, 999, 0, -1, (x, v) -> x.hit(v, 1));
        E.of(37, "NONE: nothing dug");
        E.refused("hit", Made::told, -1, x -> x.hit(0, 1));
    }

    private static void hitBounds() {
        E.of(37, "MUD above a bound");
        E.due("mud 9, bound 8", muddy(4).hit(8, 1), 250000);
        E.due("mud 9, bound 9", muddy(4).hit(9, 1), 0);
        E.due("mud 9, bound 10", muddy(4).hit(10, 1), 0);
        DitchOpen x = Due.dug("c,c", "y:0", null);
        E.due("mud 0, bound 0", x.hit(0, 1), 0);
        x.day(1);
        E.due("mud 1, bound 0", x.hit(0, 1), 1000000);
        x.set(1, 9);
        for (int day = 0; day < 110; day++) {
            x.day(1);
        }
        x.set(1, 8);
        x.day(1);
        E.due("mud 999, bound 998", x.hit(998, 1), 1000000);
        E.due("mud 999, bound 999", x.hit(999, 1), 0);
        x.set(1, 1);
        x.day(1);
        E.due("mud 1000, bound 999", x.hit(999, 2), 1000000);
    }

    private static void hitCut() {
        E.of(37, "in parts of 10 to the 6, cut");
        int[] of = {2, 3, 4, 5, 6, 7, 19, 20};
        for (int reaches : of) {
            for (int many = 1; many <= 4 && many <= reaches; many++) {
                // One of them is hit: it stands in as many of the sets as places in them.
                E.due(many + " of " + reaches, muddy(reaches).hit(0, many), 1000000 * many / reaches);
            }
        }
        E.of(37, "all sets, none of them");
        DitchOpen x = Due.dug("c" + ",c".repeat(19), "y:0", null);
        E.due("none, by 4", x.hit(0, 4), 0);
        x.day(1);
        E.due("all, by 4", x.hit(0, 4), 1000000);
        E.due("all, by 1", x.hit(0, 1), 1000000);
        x = Due.dug("c,c,c" + ",co1".repeat(17), "y:0", null);
        x.day(1);
        x.clean(1);
        // 1 less 17 16 15 14 by 20 19 18 17.
        E.due("three of twenty, by 4", x.hit(0, 4), 508771);
        // 1 less 17 16 by 20 19.
        E.due("three of twenty, by 2", x.hit(0, 2), 284210);
    }

    // ---- Promise 38

    /** Level 50; the fields are at 49 where it is wet. */
    private static DitchOpen soaked(String wet) {
        StringBuilder ditch = new StringBuilder();
        for (int i = 0; i < wet.length(); i++) {
            ditch.append(i > 0 ? "," : "").append(wet.charAt(i) == '1' ? "cf49" : "cf50");
        }
        DitchOpen x = Due.dug(ditch.toString(), "y:0", null, "0");
        x.day(0);
        return Made.kept(x);
    }

    private static void longestRefused() {
        E.of(38, "NONE: no such what");
        E.asks(() -> soaked("0110"), 0, 1, 1, 2, -1, DitchOpen::longest);
        E.asks(() -> soaked("00"), 0, -1, 1, 0, -1, DitchOpen::longest);
        E.of(38, "NONE: nothing dug");
        E.refused("where", Made::told, -1, x -> x.longest(0));
        E.refused("how many", Made::told, -1, x -> x.longest(1));
    }

    private static void longestTies() {
        E.of(38, "where (NONE: none), how many");
        String[] wet = {"00", "10", "01", "11", "000", "010", "111", "0".repeat(20), "1".repeat(20), "0".repeat(19) + "1"};
        int[] where = {-1, 0, 1, 0, -1, 1, 0, -1, 0, 19};
        int[] many = {0, 1, 1, 2, 0, 1, 3, 0, 20, 1};
        for (int i = 0; i < wet.length; i++) {
            E.due(wet[i] + ": where", soaked(wet[i]).longest(0), where[i]);
            E.due(wet[i] + ": how many", soaked(wet[i]).longest(1), many[i]);
        }
        E.of(38, "of several the first");
        String[] rows = {"101", "1101", "1011", "0110110", "1101110", "10110111", "1110111"};
        int[] begin = {0, 0, 2, 1, 3, 5, 0};
        int[] length = {1, 2, 2, 2, 3, 3, 3};
        for (int i = 0; i < rows.length; i++) {
            E.due(rows[i] + ": where", soaked(rows[i]).longest(0), begin[i]);
            E.due(rows[i] + ": how many", soaked(rows[i]).longest(1), length[i]);
        }
        E.of(38, "behind the latest DAY");
        DitchOpen x = Due.dug("cf49,cf50,cf49", "y:0", null);
        E.due("no day yet", x.longest(0), -1);
        E.due("no day yet: how many", x.longest(1), 0);
        x.day(4);
        E.due("all", x.longest(1), 3);
        x.clean(0);
        E.due("clean, but no day since", x.longest(1), 3);
    }

    // ---- Promises 39 and 40

    /** Levels 19 on both days of rain 0, 35 behind rain 1, 36 behind rain 2, as nothing flows. */
    private static DitchOpen banked() {
        return Made.kept(Due.dug("cb10w1f12,cb10w1o1f17,cb10w1o5f5", "y:0", null, "8,0", "24", "25"));
    }

    private static void banksRefused() {
        E.of(39, "HIDDEN: no such RAIN");
        E.asks(WorkEdgesTest::banked, 0, -2, 2, -1, HIDDEN, (x, v) -> x.banks(v, 0, 30, 0));
        E.of(39, "HIDDEN: no such OWNER (0 .. 5)");
        E.asks(WorkEdgesTest::banked, 0, -2, 5, 0, HIDDEN, (x, v) -> x.banks(0, v, 30, 0));
        E.of(39, "so much 0 .. 30");
        E.asks(WorkEdgesTest::banked, 0, 0, 30, -1, HIDDEN, (x, v) -> x.banks(1, 5, v, 5));
        E.of(39, "HIDDEN: no such other (0 .. 5, or the same)");
        E.asks(WorkEdgesTest::banked, 0, 0, 5, -2, HIDDEN, (x, v) -> x.banks(0, 5, 30, v));
        E.refused("NONE is not all", WorkEdgesTest::banked, HIDDEN, x -> x.banks(0, 0, 30, -1));
        E.of(39, "HIDDEN: nothing dug");
        E.refused("banks", Made::told, HIDDEN, x -> x.banks(0, 0, 1, 0));
    }

    private static void banksBounds() {
        E.of(39, "FIELDS so much higher: below, at and above the LEVEL");
        E.due("19 above 12 by 6", banked().banks(0, 0, 6, 0), 0);
        E.due("19 at 12 by 7", banked().banks(0, 0, 7, 0), -2);
        E.due("19 below 12 by 8", banked().banks(0, 0, 8, 0), -2);
        E.due("35 above 5 by 29", banked().banks(1, 5, 29, 5), 0);
        E.due("35 at 5 by 30", banked().banks(1, 5, 30, 5), -1);
        E.due("36 above 5 by 30", banked().banks(2, 5, 30, 5), 0);
        E.due("0 higher", banked().banks(0, 0, 0, 0), 0);
        DitchOpen near = Due.dug("cb10w1f18,cb10w1o1f99", "y:0", null, "8");
        E.due("19 above 18 by 0", near.banks(0, 0, 0, 0), 0);
        E.due("19 at 18 by 1", near.banks(0, 0, 1, 0), -1);
        E.of(39, "FIELDS above 99");
        DitchOpen x = Due.dug("cb99w1f99,cb99w1o1f99", "y:0", null, "9");
        // Level 99, mud 1, water 9: 109.
        E.due("by 9", x.banks(0, 0, 9, 0), 0);
        E.due("by 10", x.banks(0, 0, 10, 0), -1);
        E.due("of the other", x.banks(0, 0, 10, 1), 0);
    }

    private static void riseRefused() {
        E.of(40, "NONE: no such RAIN");
        E.asks(WorkEdgesTest::banked, 0, 7, 2, 24, -1, (x, v) -> x.rise(v, 0));
        E.of(40, "NONE: no such OWNER (0 .. 5)");
        E.asks(WorkEdgesTest::banked, 0, 7, 5, 14, -1, (x, v) -> x.rise(0, v));
        E.changesNothing("who has no REACHES", WorkEdgesTest::banked, 0, x -> x.rise(0, 4));
        E.of(40, "NONE: nothing dug");
        E.refused("rise", Made::told, -1, x -> x.rise(0, 0));
    }

    private static void riseBounds() {
        E.of(40, "of 0 .. 30 the least");
        E.changesNothing("30", WorkEdgesTest::banked, 30, x -> x.rise(1, 5));
        E.changesNothing("31: not by that", WorkEdgesTest::banked, -1, x -> x.rise(2, 5));
        int[] fields = {36, 35, 34, 6, 5, 4};
        int[] due = {0, 0, 1, 29, 30, -1};
        for (int i = 0; i < fields.length; i++) {
            DitchOpen x = Due.dug("cb10w1f" + fields[i] + ",cb10w1o1f99", "y:0", null, "24");
            E.due("level 35, field " + fields[i], x.rise(0, 0), due[i]);
        }
        E.of(40, "no HARM more");
        DitchOpen x = banked();
        x.day(1);
        // Levels 12 then, 20 behind the rain; mud 2.
        E.due("harm there was", x.owner(5, 0), 1);
        E.due("as it stands", x.rise(0, 0), 9);
        E.due("of whom there was some", x.rise(0, 5), 16);
        E.of(40, "its FIELDS alone");
        E.due("the lower of its two", Due.dug("cf50,cf45,cf40o1", "y:0", null, "3").rise(0, 0), 6);
        E.due("the other's", Due.dug("cf50,cf45,cf40o1", "y:0", null, "3").rise(0, 1), 11);
    }
}
