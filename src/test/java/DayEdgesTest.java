/** Boundaries of section 2: digging, days, laws asked, what stands, cleaning, shutting; promises 8 to 16. */
public final class DayEdgesTest {
    private static final Edge E = new Edge();
    private static final int FAR = Integer.MAX_VALUE;
    private static final int NEAR = Integer.MIN_VALUE;
    private static final int[] SLOW = {2, 4, 1};
    private static final int[] FAST = {12, 6, 20};
    private static final String SOILS = "cst";

    public static void main(String[] args) {
        set();
        dig();
        digEmpty();
        day();
        run();
        rainOfDay();
        rounds();
        flowShut();
        flowLevel();
        flowMouth();
        flowWorth();
        flowWater();
        flowWidth();
        flowLevelInPlace();
        loadSlow();
        loadFast();
        loadOut();
        numbersWithin();
        division();
        worth();
        letters();
        lettersAhead();
        slips();
        draws();
        reeds();
        wet();
        at();
        all();
        owner();
        cleanReeds();
        cleanKeeps();
        cleanRefused();
        shut();
        E.finish("DayEdgesTest", 8, 9, 10, 11, 12, 13, 14, 15, 16);
    }

    // ---- Promise 8

    private static void set() {
        String[] names = {"TIDE 0 .. 99", "SILT 0 .. 9", "SUMMER 0, 1"};
        int[] most = {99, 9, 1};
        for (int i = 0; i < 3; i++) {
            int what = i;
            E.of(8, names[what] + ", false: out of bounds");
            E.does(Made::dug, 0, 1, most[what], 1, 0, (x, v) -> Edge.bit(x.set(what, v)));
            for (int v = 0; v <= most[what]; v++) {
                DitchOpen x = Made.dug();
                E.due("set " + v, x.set(what, v), true);
                E.due("it is " + v, x.count(5 + what), v);
            }
        }
        E.of(8, "false: no such what");
        E.does(Made::dug, 0, 1, 2, 1, 0, (x, v) -> Edge.bit(x.set(v, 1)));
        E.refused("nor of 0", Made::dug, 0, x -> Edge.bit(x.set(3, 0)));
        E.refused("nor of 0", Made::dug, 0, x -> Edge.bit(x.set(-1, 0)));
        E.of(8, "with nothing dug");
        E.due("tide", Made.told().set(0, 99), true);
        E.refused("tide 100", Made::told, 0, x -> Edge.bit(x.set(0, 100)));
    }

    // ---- Promise 9

    private static void dig() {
        E.of(9, "false: no such DITCH");
        E.does(Made::dug, 0, 1, 1, 1, 0, (x, v) -> Edge.bit(x.dig(v, 0, 1, 5)));
        E.refused("with none told", DitchOpen::new, 0, x -> Edge.bit(x.dig(0, 0, -1, 5)));
        E.of(9, "false: no such LAW of FLOW (there is no NONE)");
        E.does(Made::dug, 0, 1, 2, 1, 0, (x, v) -> Edge.bit(x.dig(0, v, 1, 5)));
        E.of(9, "false: no such LAW of SLIPS (NONE: none)");
        E.does(Made::dug, -1, 1, 2, 1, 0, (x, v) -> Edge.bit(x.dig(0, 0, v, 5)));
        E.due("slips 0", Made.dug().dig(0, 0, 0, 5), true);
        E.of(9, "false: one of three is not there, nothing dug");
        E.refused("ditch", Made::told, 0, x -> Edge.bit(x.dig(2, 0, 1, 5)));
        E.refused("flow", Made::told, 0, x -> Edge.bit(x.dig(0, 3, 1, 5)));
        E.refused("slips", Made::told, 0, x -> Edge.bit(x.dig(0, 0, 3, 5)));
        E.of(9, "any seed");
        for (long seed : new long[] {Long.MIN_VALUE, -1, 0, 1, Long.MAX_VALUE}) {
            E.due("seed " + seed, Made.dug().dig(0, 0, 1, seed), true);
        }
    }

    private static void digEmpty() {
        E.of(9, "it is empty, no MUD, REEDS, LOAD, HARM, SLIPS; day 0");
        DitchOpen x = Made.dug();
        for (int what = 0; what < 9; what++) {
            E.due("all " + what + " was above 0", x.all(what) > 0, true);
        }
        x.dig(0, 0, 1, 77L);
        for (int what = 0; what < 9; what++) {
            E.due("all " + what, x.all(what), 0);
            int[] beds = {30, 24, 18, 12, 6, 0};
            for (int reach = 0; reach < 6; reach++) {
                E.due("at " + reach + ", " + what, x.at(reach, what), what == 1 ? beds[reach] : 0);
            }
        }
        for (int owner = 0; owner < 6; owner++) {
            E.due("harm and spent of " + owner, x.owner(owner, 0) + x.owner(owner, 1), 0);
        }
        E.due("tide, silt, summer stay", x.count(5) * 100 + x.count(6) * 10 + x.count(7), 321);
        E.of(9, "REACHES of the last digging alone");
        x.dig(1, 0, -1, 0);
        E.due("two", x.count(4), 2);
        E.due("the last", x.at(1, 1), 50);
        E.due("none behind it", x.at(2, 1), -1);
    }

    // ---- Promises 10 and 11

    private static void day() {
        E.of(10, "NONE: out of bounds (RAIN 0 .. 99)");
        E.does(Made::dug, 0, 5, 99, 5, -1, DitchOpen::day);
        E.of(10, "NONE: nothing dug");
        E.refused("day(0)", Made::told, -1, x -> x.day(0));
        E.refused("day(99)", Made::told, -1, x -> x.day(99));
        E.due("with one dug", Made.dug().day(0), 5);
    }

    private static void run() {
        E.of(11, "NONE: no such RAIN");
        E.does(Made::dug, 0, 7, 1, 6, -1, DitchOpen::run);
        E.of(11, "NONE: nothing dug");
        E.refused("run(0)", Made::told, -1, x -> x.run(0));
        E.of(11, "RAINS of 1 and of 30 DAYS");
        DitchOpen x = Due.dug("cb9w1f99,cb0w1f99", "y:0", null, "7", "3" + ",3".repeat(29));
        E.due("one", x.run(0), 1);
        E.due("water of one", x.at(0, 0), 7);
        E.due("thirty", x.run(1), 31);
        E.due("water of thirty", x.at(0, 0), 97);
    }

    private static void rainOfDay() {
        E.of(10, "SILT with RAIN above 0");
        int[] silts = {0, 1, 9};
        for (int silt : silts) {
            for (int rain = 0; rain <= 2; rain++) {
                DitchOpen x = Due.dug("cb9,cb0", "y:0", null);
                x.set(1, silt);
                x.day(rain);
                E.due("rain " + rain + ", silt " + silt, x.all(2), rain > 0 ? 2 * silt : 0);
            }
        }
        E.of(10, "each REACH has RAIN more WATER (0, 1, 99)");
        for (int rain : new int[] {0, 1, 99}) {
            DitchOpen x = Due.dug("cb9,cb0", "y:0", null);
            x.day(rain);
            E.due("rain " + rain, x.at(0, 0) * 100 + x.at(1, 0), rain * 101);
            x.day(rain);
            E.due("again " + rain, x.at(0, 0) * 1000 + x.at(1, 0), 2 * rain * 1001);
        }
    }

    /** Turf lets its load on by a flow of 1: four rounds carry it four reaches far. */
    private static void rounds() {
        E.of(10, "four ROUNDS");
        int[] out = {0, 0, 2, 3, 4, 4, 4};
        for (int n = 2; n <= 6; n++) {
            StringBuilder ditch = new StringBuilder();
            for (int i = 0; i < n; i++) {
                ditch.append(i > 0 ? "," : "").append("tw9b").append(10 * (n - 1 - i));
            }
            DitchOpen x = Due.dug(ditch.toString(), "y:1", null);
            x.day(9);
            E.due(n + " reaches: load out", x.all(5), out[n]);
            E.due(n + " reaches: on its way", x.all(3), n - out[n]);
            E.due(n + " reaches: water out", x.all(4), 4);
        }
    }

    /** The head with so much water and its bed, the last reach shut with level 15; behind one day. */
    private static DitchOpen above(int bed, int width, int rain, String law) {
        DitchOpen x = Due.dug("tb" + bed + "w" + width + ",tb5w" + width, law, null);
        x.set(1, 0);
        x.shut(1, true);
        x.day(rain);
        return x;
    }

    private static void flowShut() {
        E.of(10, "FLOW: none if it is SHUT");
        DitchOpen x = Due.dug("tb50w1,tb0w1", "y:99", null);
        x.shut(0, true);
        x.day(9);
        E.due("shut head", x.at(0, 0), 9);
        E.due("the last goes", x.all(4), 9);
        x.shut(0, false);
        x.shut(1, true);
        x.day(0);
        E.due("open head", x.at(0, 0), 0);
        E.due("shut last", x.at(1, 0), 9);
        E.due("none out of it", x.all(4), 9);
        E.due("its flow", x.at(1, 5), 0);
        x.shut(1, false);
        x.day(0);
        E.due("all out", x.all(4), 18);
    }

    private static void flowLevel() {
        E.of(10, "FLOW: none if its LEVEL is not above that of the next");
        // Levels of the head bed + 10, of the last 15.
        E.due("1 below", above(4, 1, 10, "y:99").at(0, 0), 10);
        E.due("alike", above(5, 1, 10, "y:99").at(0, 0), 10);
        E.due("1 above", above(6, 1, 10, "y:99").at(0, 0), 9);
        E.due("1 above: it came", above(6, 1, 10, "y:99").at(1, 0), 11);
        // 2 above by water that is none when cut: 11 by 4 is 2 in both.
        E.due("alike, cut", above(5, 4, 11, "y:99").at(0, 0), 11);
    }

    private static void flowMouth() {
        E.of(10, "LEVEL of the MOUTH is the TIDE");
        for (int tide = 8; tide <= 12; tide++) {
            DitchOpen x = Due.dug("tb50w1,tb0w1", "y:99", null);
            x.set(0, tide);
            x.set(1, 0);
            x.shut(0, true);
            x.day(10);
            E.due("level 10, tide " + tide, x.all(4), Math.max(0, 10 - tide));
            E.due("level then", x.at(1, 1), Math.min(10, tide));
        }
        for (int tide : new int[] {0, 99}) {
            DitchOpen x = Due.dug("tb99w1,tb99w1", "y:99", null);
            x.set(0, tide);
            x.set(1, 0);
            x.day(1);
            x.day(1);
            E.due("beds 99, tide " + tide, x.all(4), 4);
            x = Due.dug("tb98w1,tb98w1", "y:99", null);
            x.set(0, tide);
            x.set(1, 0);
            x.day(1);
            E.due("level 99, tide " + tide, x.all(4), tide == 99 ? 0 : 2);
        }
    }

    private static void flowWorth() {
        E.of(10, "FLOW: WORTH of the LAW, no less than 0");
        // Four rounds.
        E.due("-1", above(90, 9, 90, "y:0-1").at(0, 0), 90);
        E.due("0", above(90, 9, 90, "y:0").at(0, 0), 90);
        E.due("1", above(90, 9, 90, "y:1").at(0, 0), 86);
        E.due("1: of the last round", above(90, 9, 90, "y:1").at(0, 5), 1);
        E.due("-1: of the last round", above(90, 9, 90, "y:0-1").at(0, 5), 0);
        E.due("-9999", above(90, 9, 90, "y:0-9999").at(0, 0), 90);
    }

    private static void flowWater() {
        E.of(10, "FLOW: no more than its WATER");
        // One round alone: it is asked while its rain stands there whole.
        for (int worth = 9; worth <= 11; worth++) {
            DitchOpen x = above(90, 2, 10, "y:h=5?" + worth);
            E.due("water 10, worth " + worth, x.at(0, 0), 10 - Math.min(10, worth));
            E.due("water 10, worth " + worth + ": it came", x.at(1, 0), 10 + Math.min(10, worth));
        }
        E.due("water 0, worth 1", above(90, 2, 0, "y:1").at(1, 0), 0);
        E.due("water 1, worth 9999", above(90, 2, 1, "y:9999").at(1, 0), 2);
    }

    private static void flowWidth() {
        E.of(10, "FLOW: no more than (its LEVEL less that of the next) times its WIDTH");
        // Width 2, water 20: the head's level is bed + 10, the last's 15.
        for (int worth = 3; worth <= 5; worth++) {
            DitchOpen x = above(7, 2, 20, "y:h=10?" + worth);
            E.due("2 above, width 2, worth " + worth, x.at(0, 0), 20 - Math.min(4, worth));
        }
        // By one round alone: 1 above and width 9, then 8, 9, 10 of worth; level of 90 by 9 is 10.
        for (int worth = 8; worth <= 10; worth++) {
            DitchOpen x = above(6, 9, 90, "y:h=10?" + worth);
            E.due("1 above, width 9, worth " + worth, x.at(0, 0), 90 - Math.min(9, worth));
        }
    }

    private static void flowLevelInPlace() {
        E.of(10, "LEVEL: BED, MUD and (WATER by WIDTH, cut)");
        int[] due = {0, 0, 0, 1, 1, 1, 2};
        for (int water = 0; water <= 6; water++) {
            DitchOpen x = Due.dug("tb0w3,tb0w3", "y:0", null);
            x.set(1, 0);
            x.day(water);
            E.due("water " + water + ", width 3", x.at(0, 1), due[water]);
        }
        DitchOpen x = Due.dug("tb7w9,tb0w9", "y:0", null);
        x.set(1, 4);
        x.day(8);
        E.due("bed 7, mud 4, water 8 by 9", x.at(0, 1), 11);
        x.set(1, 0);
        x.day(1);
        E.due("bed 7, mud 4, water 9 by 9", x.at(0, 1), 12);
    }

    /** A head of a soil that flows so much each round; its rain of 98 brings so much silt. */
    private static DitchOpen flowing(int soil, int flow, int mud, int silt) {
        DitchOpen x = Due.dug(SOILS.charAt(soil) + "b90w9,tb0w9", "y:" + flow, null);
        x.shut(1, true);
        if (mud > 0) {
            x.shut(0, true);
            x.set(1, mud);
            x.day(1);
            x.shut(0, false);
        }
        x.set(1, silt);
        x.day(98);
        return x;
    }

    private static void loadSlow() {
        for (int soil = 0; soil < 3; soil++) {
            int slow = SLOW[soil];
            E.of(10, "below SLOW (" + SOILS.charAt(soil) + " " + slow + ") all LOAD there becomes MUD");
            E.due("below", flowing(soil, slow - 1, 0, 5).at(0, 2), 5);
            E.due("below: no load", flowing(soil, slow - 1, 0, 5).at(0, 4), 0);
            E.due("at", flowing(soil, slow, 0, 5).at(0, 2), 0);
            E.due("above", flowing(soil, slow + 1, 0, 5).at(0, 2), 0);
            E.due("at: it goes", flowing(soil, slow, 0, 5).at(1, 2), 10);
        }
    }

    private static void loadFast() {
        for (int soil = 0; soil < 3; soil++) {
            int fast = FAST[soil];
            E.of(10, "FLOW above FAST (" + SOILS.charAt(soil) + " " + fast + "): 1 of the MUD (CUT)");
            E.due("below", flowing(soil, fast - 1, 6, 0).all(6), 0);
            E.due("at", flowing(soil, fast, 6, 0).all(6), 0);
            E.due("at: mud", flowing(soil, fast, 6, 0).at(0, 2), 6);
            E.due("above", flowing(soil, fast + 1, 6, 0).all(6), 4);
            E.due("above: mud", flowing(soil, fast + 1, 6, 0).at(0, 2), 2);
            E.of(10, "and MUD there (" + SOILS.charAt(soil) + ")");
            E.due("mud 0", flowing(soil, fast + 1, 0, 0).all(6), 0);
            E.due("mud 1", flowing(soil, fast + 1, 1, 0).all(6), 1);
            E.due("mud 1: none left", flowing(soil, fast + 1, 1, 0).at(0, 2), 0);
            E.due("mud 3", flowing(soil, fast + 1, 3, 0).all(6), 3);
            E.due("mud 4", flowing(soil, fast + 1, 4, 0).all(6), 4);
            E.due("mud 5", flowing(soil, fast + 1, 5, 0).all(6), 4);
            E.due("with it: it settles behind", flowing(soil, fast + 1, 3, 0).at(1, 2), 6);
        }
    }

    private static void loadOut() {
        E.of(10, "from the last it is OUT");
        DitchOpen x = Due.dug("tb50w9,tb40w9", "y:1", null);
        x.set(1, 7);
        x.day(9);
        E.due("load out", x.all(5), 14);
        E.due("water out", x.all(4), 4);
        E.due("none is left", x.all(3) + x.all(2), 0);
        x.shut(1, true);
        x.day(9);
        E.due("shut: none more", x.all(5), 14);
        E.due("shut: it settles", x.at(1, 2), 14);
        E.due("shut: no water more", x.all(4), 4);
    }

    // ---- LAWS asked

    /** A law's worth, as the flow that a head with water enough has. */
    private static int head(String law) {
        DitchOpen x = Due.dug("tb90w9,cb0w9", law, null);
        x.day(90);
        return x.at(0, 5);
    }

    private static void is(String sum, String value) {
        E.due(sum + " = " + value, head("y:" + sum + "=" + value + "?7;y:3"), 7);
        E.due(sum + " > " + value, head("y:" + sum + ">" + value + "?7;y:3"), 3);
        E.due(sum + " < " + value, head("y:" + sum + "<" + value + "?7;y:3"), 3);
    }

    private static void numbersWithin() {
        String million = "[1000*1000]";
        E.of(10, "behind each sign within .. 1,000,000: +");
        is(million + "-1+0", "[1000*999+999]");
        is(million + "-1+1", million);
        is(million + "-1+2", million);
        is(million + "-1+2-1", "[1000*999+999]");
        is(million + "+9999-9999", "[1000*990+1]");
        E.of(10, "behind each sign within .. 1,000,000: *");
        is("999*1001", "[1000*999+999]");
        is("1000*1000", million);
        is("1000*1001", million);
        is("9999*9999", million);
        is("9999*9999/1000", "1000");
        is("1000*1000*9999*9999", million);
        E.of(10, "behind each sign within .. 1,000,000: -");
        is(million + "-[0-1]-1", "[1000*999+999]");
        is(million + "-[0-9999]", million);
        is("0-[0-" + million + "]", million);
        E.of(10, "behind each sign within -1,000,000 ..: -");
        is("0-" + million + "+1", "0-[1000*999+999]");
        is("0-" + million, "0-1000*1000");
        is("0-" + million + "-1", "0-1000*1000");
        is("0-" + million + "-9999+1", "0-[1000*999+999]");
        E.of(10, "behind each sign within -1,000,000 ..: + and *");
        is("[0-" + million + "]+[0-5]+1", "0-[1000*999+999]");
        is("[0-1000]*1001", "0-1000*1000");
        is("[0-9999]*9999+1", "0-[1000*999+999]");
        is("[0-999]*1001", "0-[1000*999+999]");
        is("[0-9999]*[0-9999]", million);
    }

    private static void division() {
        E.of(10, "/ cuts towards 0");
        is("7/2", "3");
        is("[0-7]/2", "0-3");
        is("7/[0-2]", "0-3");
        is("[0-7]/[0-2]", "3");
        is("1/2", "0");
        is("[0-1]/2", "0");
        is("6/2", "3");
        is("[0-6]/2", "0-3");
        E.of(10, "/ by 0 gives 0");
        is("7/0", "0");
        is("[0-7]/0", "0");
        is("0/0", "0");
        is("5+7/0", "5");
        is("7/0*9+1", "1");
        is("7/[3-3]", "0");
        is("7/1", "7");
        is("7/[0-1]", "0-7");
    }

    private static void worth() {
        E.of(10, "WORTH: 0 without");
        E.due("none holds", head("y:1=2?5"), 0);
        E.due("none of three holds", head("y:1=2?5;y:1>1?5;y:1<1?5"), 0);
        E.due("it holds", head("y:1=1?5"), 5);
        E.of(10, "WORTH: the first CLAUSE whose CONDITION holds (or has none)");
        E.due("the first", head("y:1=1?5;y:1=1?6;y:7"), 5);
        E.due("the second", head("y:1=2?5;y:1=1?6;y:7"), 6);
        E.due("the last", head("y:1=2?5;y:1=2?6;y:7"), 7);
        E.due("none behind one without", head("y:8;y:1=1?6;y:7"), 8);
        E.of(10, "= < >");
        int[][] due = {{4, 0, 1, 0}, {5, 1, 0, 0}, {6, 0, 0, 1}};
        for (int[] d : due) {
            E.due(d[0] + " = 5", head("y:" + d[0] + "=5?1"), d[1]);
            E.due(d[0] + " < 5", head("y:" + d[0] + "<5?1"), d[2]);
            E.due(d[0] + " > 5", head("y:" + d[0] + ">5?1"), d[3]);
        }
        E.of(10, "! | &");
        String[] truth = {"1=2", "1=1"};
        for (int a = 0; a < 2; a++) {
            E.due("! " + a, head("y:!" + truth[a] + "?1"), 1 - a);
            E.due("!! " + a, head("y:!!" + truth[a] + "?1"), a);
            for (int b = 0; b < 2; b++) {
                E.due(a + " & " + b, head("y:" + truth[a] + "&" + truth[b] + "?1"), a & b);
                E.due(a + " | " + b, head("y:" + truth[a] + "|" + truth[b] + "?1"), a | b);
                E.due("! of both " + a + b, head("y:!(" + truth[a] + "&" + truth[b] + ")?1"), 1 - (a & b));
                E.due("! of one " + a + b, head("y:!" + truth[a] + "&" + truth[b] + "?1"), (1 - a) & b);
                for (int c = 0; c < 2; c++) {
                    String all = truth[a] + "|" + truth[b] + "&" + truth[c];
                    E.due("& binds " + a + b + c, head("y:" + all + "?1"), a | b & c);
                }
            }
        }
        String[] holds = {"1=1", "1<2", "2>1", "!1=2", "(1=1)"};
        String[] not = {"1=2", "2<1", "1>2", "!1=1", "(1=2)"};
        for (int a = 0; a < 5; a++) {
            for (int b = 0; b < 5; b++) {
                E.due(holds[a] + " & " + holds[b], head("y:" + holds[a] + "&" + holds[b] + "?1"), 1);
                E.due(holds[a] + " & " + not[b], head("y:" + holds[a] + "&" + not[b] + "?1"), 0);
                E.due(not[a] + " | " + holds[b], head("y:" + not[a] + "|" + holds[b] + "?1"), 1);
                E.due(not[a] + " | " + not[b], head("y:" + not[a] + "|" + not[b] + "?1"), 0);
            }
        }
        E.of(10, "six within one another, asked");
        E.due("[", head("y:[[[[[[2+3]*2]-1]*2]+1]-4]"), 15);
        E.due("(", head("y:((((((1=1))))))?9;y:4"), 9);
        E.due("!", head("y:!!!!!!1=1?9;y:4"), 9);
        E.due("five !", head("y:!!!!!1=1?9;y:4"), 4);
        // What waits in a sum with six of [ and truths round them.
        E.due("all at once", head("y:1=2|1=1&(1=2|1=1&(1=2|1=1&(1+2*[1+2*[1+2*[1+1]]]=31)))?9;y:4"), 4);
        E.due("all at once", head("y:1=2|1=1&(1=2|1=1&(1=2|1=1&(1+2*[1+2*[1+2*[1+1]]]=23)))?9;y:4"), 9);
    }

    private static void letter(String why, DitchOpen x, int due) {
        E.due(why, x.at(0, 5), due);
    }

    private static DitchOpen soilHead(char soil, int width, String law, int rain) {
        DitchOpen x = Due.dug(soil + "b90w" + width + ",cb0w9", law, null);
        x.day(rain);
        return x;
    }

    private static void letters() {
        E.of(10, "letters: s soil (c 0, s 1, t 2)");
        letter("c", soilHead('c', 9, "y:s+1", 90), 1);
        letter("s", soilHead('s', 9, "y:s+1", 90), 2);
        letter("t", soilHead('t', 9, "y:s+1", 90), 3);
        E.of(10, "letters: w WIDTH (1 .. 9)");
        letter("1", soilHead('c', 1, "y:w", 90), 1);
        letter("9", soilHead('c', 9, "y:w", 90), 9);
        E.of(10, "letters: q RAIN of the DAY (0 .. 99)");
        letter("99", soilHead('c', 9, "y:q/9", 99), 11);
        DitchOpen x = Due.dug("cb90w9,cb0w9", "y:q", null);
        x.shut(0, true);
        x.day(99);
        x.shut(0, false);
        x.day(0);
        E.due("0", x.at(0, 0), 99);
        x.day(1);
        E.due("1, four times", x.at(0, 0), 96);
        E.of(10, "letters: h WATER by WIDTH, cut");
        for (int water = 17; water <= 19; water++) {
            x = soilHead('c', 9, "y:h=2?1", water);
            E.due("water " + water + " by 9", water - x.at(0, 0), water == 17 ? 0 : water - 17);
        }
        E.of(10, "letters: d LEVEL less that of the next");
        // Levels 91 and 1: 90; the last one's 1 above the tide.
        x = soilHead('c', 9, "y:d=90?1;y:d=1?2", 9);
        E.due("the head", 9 - x.at(0, 0), 1);
        x = Due.dug("cb90w9,cb0w9", "y:d=1?2", null);
        x.day(9);
        E.due("the last by the tide", x.all(4), 2);
        x = Due.dug("cb0w1,cb40w1", "y:0", "y:d=0-40?100;y:d=40?100");
        x.day(0);
        E.due("below 0, in the law of slips", x.at(0, 6), 1);
        E.due("and of the last", x.at(1, 6), 1);
        E.of(10, "letters: r REEDS, m MUD, n SLIPS there so far");
        for (int days = 0; days <= 2; days++) {
            x = Due.dug("tb90w9f99,tb0w9", "y:0", "y:n=" + days + "&r=" + days + "&m=5*" + days + "?100;y:n<" + days + "?100");
            x.set(2, 1);
            for (int day = 0; day <= days; day++) {
                E.due("slips of " + days + " ahead of day " + day, x.at(0, 6), day);
                x.day(0);
            }
            E.due("slips of " + days, x.at(0, 6), days + 1);
        }
    }

    private static void lettersAhead() {
        E.of(10, "letters as it is when it is asked (all FLOWS of a ROUND ahead of it)");
        // The head gives 9 in the first round; the last reach is asked h = 1 ahead of what comes.
        DitchOpen x = Due.dug("tb90w9,tb0w9", "y:h=1?9;y:h=2?1", null);
        x.day(9);
        // Rounds: 9 9; then the head is empty, the last has 9: 9; then none.
        E.due("out", x.all(4), 18);
        x = Due.dug("tb90w9,tb0w9", "y:s=2&d>50?9;y:h=2?1", null);
        x.day(9);
        // First the head's 9 go, the last is at h = 1: none; then it is at h = 2: 1; then at h = 1.
        E.due("asked of what there was", x.all(4), 1);
        E.of(10, "slips: as it is when it is asked, from the head");
        // The head's slip makes it higher for itself no more; the last is asked behind it.
        x = Due.dug("tb50w9,tb50w9,tb50w9", "y:0", "y:d=0?100");
        x.day(0);
        E.due("head, next, last", x.at(0, 6) * 100 + x.at(1, 6) * 10 + x.at(2, 6), 110);
        x = Due.dug("tb50w9,tb50w9,tb50w9", "y:0", "y:d=0-5?100;y:d=50?100");
        x.day(0);
        E.due("the last first alone", x.at(0, 6) * 100 + x.at(1, 6) * 10 + x.at(2, 6), 1);
        x.day(0);
        E.due("the one ahead of it next", x.at(0, 6) * 100 + x.at(1, 6) * 10 + x.at(2, 6), 11);
    }

    // ---- SLIPS

    private static long step(long x) {
        return x * 6364136223846793005L + 1442695040888963407L;
    }

    private static int drawOf(long x) {
        return (int) ((x >>> 33) % 100);
    }

    private static int slipsOf(long seed, String law) {
        DitchOpen x = Due.dug("cb50w1,cb50w1", "y:0", law);
        x.dig(0, 0, 1, seed);
        x.day(0);
        return x.at(0, 6);
    }

    private static void slips() {
        E.of(10, "a draw of 100: below its WORTH");
        int seen = 0;
        for (long seed = 0; seen < 6 && seed < 100000; seed++) {
            int draw = drawOf(step(seed));
            int kind = draw == 0 ? 1 : draw == 99 ? 2 : draw == 50 ? 4 : 0;
            if (kind > 0 && (seen & kind) == 0) {
                seen |= kind;
                E.due("draw " + draw + ", worth 1 less", slipsOf(seed, "y:" + draw + "-1"), 0);
                E.due("draw " + draw + ", worth alike", slipsOf(seed, "y:" + draw), 0);
                E.due("draw " + draw + ", worth 1 more", slipsOf(seed, "y:" + (draw + 1)), 1);
            }
        }
        E.due("draws of 0 and 99 were found", seen & 3, 3);
        E.of(10, "a draw of 100: of 0 never, of 100 always");
        DitchOpen x = Due.dug("cb50w1,cb50w1", "y:0", "y:[1-w]*100");
        Due.text(x, 0, "cb50w1,cb50w2");
        for (int day = 0; day < 120; day++) {
            x.day(0);
        }
        E.due("0", x.all(8), 0);
        x.dig(1, 0, 1, 7);
        for (int day = 0; day < 60; day++) {
            x.day(0);
        }
        E.due("-100", x.at(1, 6), 0);
        x = Due.dug("cb50w1,cb50w1", "y:0", "y:100");
        for (int day = 0; day < 120; day++) {
            x.day(0);
        }
        E.due("100", x.all(8), 240);
        E.of(10, "5 more MUD comes in: a SLIP");
        E.due("mud", x.at(0, 2), 600);
        E.due("slips", x.at(0, 6), 120);
        E.due("they are not load", x.all(3), 0);
        E.of(10, "SLIPS with their LAW alone");
        x = Due.dug("cb50w1,cb50w1", "y:100", "y:100");
        x.dig(0, 0, -1, 5);
        x.day(0);
        E.due("without", x.all(8), 0);
        x.dig(0, 0, 0, 5);
        x.day(0);
        E.due("with", x.all(8), 2);
    }

    private static void draws() {
        E.of(10, "x, at first the seed (64 bits, going round; shifted without sign)");
        long[] seeds = {Long.MIN_VALUE, Long.MIN_VALUE + 1, -1, 0, 1, Long.MAX_VALUE, 1L << 32, 1L << 63 - 1, 77L};
        int below = 0;
        for (long seed : seeds) {
            long s = seed;
            for (int draw = 1; draw <= 6; draw++) {
                s = step(s);
                below += s < 0 ? 1 : 0;
                // Two draws a day: of this one alone it is asked whether it is just so much.
                int due = drawOf(s);
                E.due("seed " + seed + ", draw " + draw + " is no less", slipAt(seed, draw, due), 0);
                E.due("seed " + seed + ", draw " + draw + " is no more", slipAt(seed, draw, due + 1), 1);
            }
        }
        E.due("some were below 0", below > 5, true);
    }

    /** Whether the reach slips by the draw of this number, by so much worth. */
    private static int slipAt(long seed, int draw, int worth) {
        DitchOpen x = Due.dug("cb50w1,cb50w2", "y:0", "y:w=" + (2 - draw % 2) + "&q=1?" + worth);
        x.dig(0, 0, 1, seed);
        int days = (draw + 1) / 2;
        for (int day = 1; day <= days; day++) {
            x.day(day == days ? 1 : 0);
        }
        return x.all(8);
    }

    // ---- REEDS, WET

    private static void reeds() {
        E.of(10, "REEDS: 99 at most");
        DitchOpen x = Due.dug("cb50,cb0", "y:0", null);
        x.set(2, 1);
        for (int day = 1; day <= 101; day++) {
            x.day(0);
            if (day == 1 || day >= 98) {
                E.due("day " + day, x.at(0, 3), Math.min(99, day));
                E.due("day " + day + ", the last", x.at(1, 3), Math.min(99, day));
            }
        }
        E.of(10, "REEDS: if it is SUMMER");
        x = Due.dug("cb50,cb0", "y:0", null);
        x.day(0);
        E.due("no", x.at(0, 3), 0);
        x.set(2, 1);
        x.day(0);
        E.due("yes", x.at(0, 3), 1);
        x.set(2, 0);
        x.day(0);
        E.due("no more", x.at(0, 3), 1);
    }

    private static void wet() {
        E.of(10, "WET: LEVEL above its FIELD");
        for (int field = 58; field <= 62; field++) {
            DitchOpen x = Due.dug("cb50w1f" + field + "o3,cb50w1f99", "y:0", null);
            x.set(1, 0);
            x.day(10);
            E.due("level 60, field " + field, x.at(0, 7), field < 60 ? 1 : 0);
            E.due("harm of its owner", x.owner(3, 0), field < 60 ? 1 : 0);
            E.due("harm of all", x.all(7), field < 60 ? 1 : 0);
        }
        E.of(10, "WET: behind the latest DAY");
        DitchOpen x = Due.dug("cb50w1f59,cb0w1f99", "y:0", null);
        x.set(1, 9);
        x.day(1);
        E.due("level 60", x.at(0, 7), 1);
        x.clean(0);
        E.due("clean, but no day since", x.at(0, 7), 1);
        x.day(0);
        E.due("a day since", x.at(0, 7), 0);
        E.of(10, "WET: FIELD 0 and 99");
        x = Due.dug("cb0w1f0,cb99w1f99", "y:0", null);
        x.set(1, 0);
        x.day(0);
        E.due("level at field 0, at 99", x.at(0, 7) * 10 + x.at(1, 7), 0);
        x.day(1);
        E.due("above 0, above 99", x.at(0, 7) * 10 + x.at(1, 7), 11);
    }

    // ---- Promises 12 to 14

    private static void at() {
        E.of(12, "NONE: no such REACH");
        E.asks(Made::dug, 0, 25, 5, 41, -1, (x, v) -> x.at(v, 0));
        E.asks(Made::dug, 0, 1, 5, 0, -1, (x, v) -> x.at(v, 8));
        E.of(12, "NONE: no such what");
        E.asks(Made::dug, 0, 25, 8, 1, -1, (x, v) -> x.at(0, v));
        E.of(12, "NONE: nothing dug");
        for (int what = 0; what < 9; what++) {
            int asked = what;
            E.refused("at(0, " + what + ")", Made::told, -1, x -> x.at(0, asked));
        }
        E.of(12, "REACHES 2 .. 20");
        for (int n : new int[] {2, 3, 19, 20}) {
            DitchOpen x = Due.dug("cb7" + ",cb7".repeat(n - 1), "y:0", null);
            E.due("the last of " + n, x.at(n - 1, 1), 7);
            E.due("behind it", x.at(n, 1), -1);
        }
    }

    private static void all() {
        E.of(13, "NONE: no such what");
        E.asks(Made::dug, 0, 4, 8, 11, -1, DitchOpen::all);
        E.of(13, "NONE: nothing dug");
        for (int what = 0; what < 9; what++) {
            int asked = what;
            E.refused("all(" + what + ")", Made::told, -1, x -> x.all(asked));
        }
        E.of(13, "of all: 2 .. 20 REACHES");
        for (int n : new int[] {2, 20}) {
            DitchOpen x = Due.dug("cw1f50" + ",cw1f50".repeat(n - 1), "y:0", "y:100");
            x.day(3);
            int[] due = {1, 3 * n, 6 * n, 0, 0, 0, 0, n, n};
            for (int what = 0; what < 9; what++) {
                E.due("all(" + what + ") of " + n, x.all(what), due[what]);
            }
        }
    }

    private static void owner() {
        E.of(14, "NONE: no such OWNER (0 .. 5)");
        E.asks(Made::dug, 0, 4, 5, 0, -1, (x, v) -> x.owner(v, 0));
        E.asks(Made::dug, 0, 2, 5, 0, -1, (x, v) -> x.owner(v, 2));
        E.of(14, "NONE: no such what");
        E.asks(Made::dug, 0, 4, 2, 2, -1, (x, v) -> x.owner(1, v));
        E.of(14, "NONE: nothing dug");
        for (int what = 0; what < 3; what++) {
            int asked = what;
            E.refused("owner(0, " + what + ")", Made::told, -1, x -> x.owner(0, asked));
        }
        E.of(14, "OWNERS without REACHES");
        DitchOpen x = Due.dug("co5,co5,c", "y:0", null);
        int[] due = {1, 0, 0, 0, 0, 2};
        for (int owner = 0; owner < 6; owner++) {
            E.due("reaches of " + owner, x.owner(owner, 2), due[owner]);
        }
        E.of(14, "SPENT since the DIGGING");
        x.day(9);
        E.due("two of mud", x.clean(5), 2);
        E.due("spent", x.owner(5, 1), 2);
        x.day(9);
        x.clean(5);
        E.due("spent in all", x.owner(5, 1), 4);
        E.due("by no other", x.owner(0, 1), 0);
        x.dig(0, 0, -1, 5);
        E.due("since then none", x.owner(5, 1), 0);
        x.day(9);
        E.due("one of mud", x.clean(0), 1);
        E.due("spent by the least owner", x.owner(0, 1), 1);
        E.due("by no other", x.owner(5, 1), 0);
    }

    // ---- Promise 15

    private static void cleanReeds() {
        E.of(15, "REEDS by 10, cut");
        for (int reeds : new int[] {0, 1, 9, 10, 11, 19, 20, 98, 99}) {
            DitchOpen x = Due.dug("co1,c", "y:0", null);
            x.set(2, 1);
            for (int day = 0; day < reeds; day++) {
                x.day(0);
            }
            E.due(reeds + " reeds", x.clean(1), reeds / 10);
            E.due(reeds + " reeds are gone", x.at(0, 3), 0);
            E.due("the other's stay", x.at(1, 3), reeds);
        }
        E.of(15, "REACH by REACH");
        DitchOpen x = Due.dug("co1,co1,co1,c", "y:0", null);
        x.set(2, 1);
        for (int day = 0; day < 19; day++) {
            x.day(0);
        }
        E.due("three times 19 reeds", x.clean(1), 3);
    }

    private static void cleanKeeps() {
        E.of(15, "LOAD stays");
        DitchOpen x = Made.dug();
        int load = x.all(3);
        E.due("there is load", load > 0 && x.at(4, 4) > 0, true);
        x.clean(1);
        E.due("of all", x.all(3), load);
        E.due("MUD is gone", x.at(0, 2) + x.at(4, 2), 0);
        E.due("REEDS are gone", x.at(0, 3) + x.at(4, 3), 0);
        E.due("nothing more", x.clean(1), 0);
        E.of(15, "an OWNER without REACHES");
        E.changesNothing("clean(5)", Made::dug, 0, y -> y.clean(5));
        E.changesNothing("clean(4)", Made::dug, 0, y -> y.clean(4));
    }

    private static void cleanRefused() {
        E.of(15, "NONE: no such one");
        // Mud 10 and 14, and reeds below 10.
        E.does(Made::dug, 0, 24, 5, 0, -1, DitchOpen::clean);
        E.of(15, "NONE: nothing dug");
        E.refused("clean(0)", Made::told, -1, x -> x.clean(0));
    }

    // ---- Promise 16

    private static void shut() {
        for (boolean is : new boolean[] {true, false}) {
            E.of(16, "false: no such one (" + is + ")");
            E.does(Made::dug, 0, 1, 5, 1, 0, (x, v) -> Edge.bit(x.shut(v, is)));
            E.of(16, "false: nothing dug (" + is + ")");
            E.refused("shut(0, " + is + ")", Made::told, 0, x -> Edge.bit(x.shut(0, is)));
        }
        E.of(16, "SHUT already, open already");
        E.changesNothing("shut", Made::dug, 1, x -> Edge.bit(x.shut(0, true)));
        E.changesNothing("open", Made::dug, 1, x -> Edge.bit(x.shut(1, false)));
        E.of(16, "a REACH alone");
        DitchOpen x = Due.dug("c,c,c", "y:0", null);
        x.shut(1, true);
        E.due("shut", x.at(0, 8) * 100 + x.at(1, 8) * 10 + x.at(2, 8), 10);
        x.shut(2, true);
        x.shut(1, false);
        E.due("open", x.at(0, 8) * 100 + x.at(1, 8) * 10 + x.at(2, 8), 1);
        E.of(16, "SHUT until it is open, by days");
        x.day(5);
        E.due("behind a day", x.at(2, 8), 1);
    }
}
