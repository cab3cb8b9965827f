/** Boundaries of section 4: forms, ditches dug anew, images; promises 27 to 30, 41 and 42. */
public final class FormEdgesTest {
    private static final Edge E = new Edge();

    public static void main(String[] args) {
        fallsRefused();
        fallsNothingDug();
        fallsMud();
        fallsCut();
        fallsForm();
        sandsRefused();
        sandsTies();
        sandsAnew();
        sinksRefused();
        sinksBounds();
        sinksAtLeast();
        raisedRefused();
        raisedBounds();
        imageRefused();
        imageKeeps();
        imageAgain();
        E.finish("FormEdgesTest", 27, 28, 29, 30, 41, 42);
    }

    // ---- Promise 27

    /** Nothing flows by law 0, all goes by law 1; rains of a day with 1, and of a day with none. */
    private static DitchOpen forms() {
        DitchOpen x = Due.dug("cb9w1o3f9,tb0w2f3", "y:0", "y:99", "1", "0");
        x.set(1, 9);
        x.day(7);
        return Made.kept(x);
    }

    private static void fallsRefused() {
        E.of(27, "REACHES 2 .. 20");
        // Mud 9 of each reach: 18 of two, 180 of twenty.
        E.asks(FormEdgesTest::forms, 2, 1023, 20, 0, -1, (x, v) -> x.falls(v, 0, 1, 0, 0, 99));
        E.changesNothing("eleven", FormEdgesTest::forms, 1023, x -> x.falls(11, 0, 1, 0, 0, 99));
        E.changesNothing("twelve", FormEdgesTest::forms, 0, x -> x.falls(12, 0, 1, 0, 0, 99));
        E.changesNothing("twenty, dry", FormEdgesTest::forms, 1023, x -> x.falls(20, 0, 1, 0, 1, 0));
        E.of(27, "soil 0 .. 2");
        E.asks(FormEdgesTest::forms, 0, 1023, 2, 1023, -1, (x, v) -> x.falls(2, v, 1, 0, 0, 18));
        E.of(27, "WIDTH 1 .. 9");
        E.asks(FormEdgesTest::forms, 1, 1023, 9, 1023, -1, (x, v) -> x.falls(2, 0, v, 0, 0, 18));
        E.of(27, "no such LAW of FLOW");
        // By law 1 the head's load goes out, but by a fall of 0; by law 0 none.
        E.asks(FormEdgesTest::forms, 0, 0, 1, 1022, -1, (x, v) -> x.falls(2, 2, 4, v, 0, 17));
        E.of(27, "no such RAIN");
        E.asks(FormEdgesTest::forms, 0, 0, 1, 1023, -1, (x, v) -> x.falls(2, 0, 1, 0, v, 17));
        E.of(27, "so much 0 .. 99");
        E.asks(FormEdgesTest::forms, 0, 0, 99, 1023, -1, (x, v) -> x.falls(2, 0, 1, 0, 0, v));
        E.changesNothing("dry, 0", FormEdgesTest::forms, 1023, x -> x.falls(2, 0, 1, 0, 1, 0));
    }

    private static void fallsNothingDug() {
        E.of(27, "with nothing dug");
        // Silt 2 and the tide 3; by law 2, a flow of 9, from turf all goes but what lies below the tide.
        E.changesNothing("law 0", Made::told, 1023, x -> x.falls(2, 0, 1, 0, 0, 99));
        E.refused("no such law", Made::told, -1, x -> x.falls(2, 0, 1, 3, 0, 99));
        E.refused("no such rain", Made::told, -1, x -> x.falls(2, 0, 1, 0, 2, 99));
        E.refused("nothing told", DitchOpen::new, -1, x -> x.falls(2, 0, 1, 0, 0, 99));
    }

    private static void fallsMud() {
        E.of(27, "in the end all its MUD is no more than so much");
        for (int reaches = 2; reaches <= 11; reaches++) {
            DitchOpen x = forms();
            int mud = 9 * reaches;
            E.due("mud " + mud + ", 1 less", x.falls(reaches, 0, 1, 0, 0, mud - 1), 0);
            E.due("mud " + mud + ", as much", x.falls(reaches, 0, 1, 0, 0, mud), 1023);
            if (mud < 99) {
                E.due("mud " + mud + ", 1 more", x.falls(reaches, 0, 1, 0, 0, mud + 1), 1023);
            }
        }
        DitchOpen x = forms();
        x.set(1, 5);
        E.due("mud 100, 99", x.falls(20, 0, 1, 0, 0, 99), 0);
        E.due("mud 95, 99", x.falls(19, 0, 1, 0, 0, 99), 1023);
    }

    /** Sand, falls of 9, a day of 3 by which the load settles, then one of a flow of so much. */
    private static int cutBy(int flow) {
        DitchOpen x = new DitchOpen();
        Due.text(x, 1, "y:q");
        Due.text(x, 2, "3," + flow);
        return x.falls(2, 1, 1, 0, 0, 99) >> 9 & 1;
    }

    private static void fallsCut() {
        E.of(27, "and nothing was CUT (sand: FLOW above 6)");
        E.due("a flow of 5", cutBy(5), 1);
        E.due("a flow of 6", cutBy(6), 1);
        E.due("a flow of 7", cutBy(7), 0);
    }

    private static void fallsForm() {
        E.of(27, "the FALL 0 .. 9");
        DitchOpen x = new DitchOpen();
        Due.text(x, 1, "y:d");
        Due.text(x, 2, "1");
        // Turf, one of water, silt 1: the head goes on if it is above the next; the last by its water.
        E.due("all but 0", x.falls(2, 2, 1, 0, 0, 0), 1022);
        E.due("0, too", x.falls(2, 2, 1, 0, 0, 1), 1023);
        // The law lets nothing go but by a fall of so much in all.
        for (int fall = 0; fall <= 9; fall++) {
            DitchOpen y = new DitchOpen();
            Due.text(y, 1, "y:d=" + fall + "|d=1?99");
            Due.text(y, 2, "1");
            E.due("by " + fall, y.falls(2, 2, 1, 0, 0, 0), fall == 0 ? 2 : 2 | 1 << fall);
        }
        E.of(27, "the last with BED 0, each the FALL higher than the next");
        for (int tide = 4; tide <= 5; tide++) {
            DitchOpen y = new DitchOpen();
            Due.text(y, 1, "y:1");
            Due.text(y, 2, "5");
            y.set(0, tide);
            E.due("level 5, tide " + tide, y.falls(2, 2, 1, 0, 0, 1) & 1, tide == 4 ? 1 : 0);
        }
        // All goes on, nine of water and the load with it, if d is so much in each, and 1 in the last.
        E.due("d of twenty is 9, or 1", deep("y:d=9|d=1?9"), 1 << 9 | 2);
        E.due("d of twenty is 8, or 1", deep("y:d=8|d=1?9"), 1 << 8 | 2);
        E.due("d of twenty is 10, or 1", deep("y:d=10|d=1?9"), 2);
        E.of(27, "WIDTH alike");
        DitchOpen z = new DitchOpen();
        Due.text(z, 1, "y:w=7?99");
        Due.text(z, 2, "9");
        E.due("7", z.falls(2, 2, 7, 0, 0, 0) >> 9, 1);
        E.due("6", z.falls(2, 2, 6, 0, 0, 0), 0);
        E.due("8", z.falls(2, 2, 8, 0, 0, 0), 0);
        E.of(27, "one soil");
        for (int soil = 0; soil < 3; soil++) {
            DitchOpen y = new DitchOpen();
            Due.text(y, 1, "y:s=" + soil + "?99");
            Due.text(y, 2, "9");
            for (int other = 0; other < 3; other++) {
                E.due(soil + " and " + other, y.falls(2, other, 1, 0, 0, 0) >> 9, other == soil ? 1 : 0);
            }
        }
        E.of(27, "without SLIPS");
        DitchOpen y = Due.dug("c,c", "y:99", "y:100", "0");
        E.due("no mud", y.falls(2, 0, 1, 0, 0, 0), 1023);
        E.of(27, "SUMMER and TIDE as they are");
        y.set(2, 1);
        E.due("reeds are no mud", y.falls(2, 0, 1, 0, 0, 0), 1023);
    }

    private static int deep(String law) {
        DitchOpen x = new DitchOpen();
        Due.text(x, 1, law);
        Due.text(x, 2, "9");
        return x.falls(20, 2, 9, 0, 0, 0);
    }

    // ---- Promise 28

    /**
     * By ditch 0 the load of both, 3 each, settles in the last; in ditch 1 in the head and the next.
     * The rain is one of 3 (0), or dry (1).
     */
    private static DitchOpen sandy() {
        DitchOpen x = Due.dug("tb10w1,sb0w1", "y:9", null, "3", "0,0");
        Due.text(x, 0, "c,c,c");
        x.set(1, 3);
        x.shut(0, true);
        x.day(3);
        return Made.kept(x);
    }

    private static void sandsRefused() {
        E.of(28, "NONE: no such DITCH");
        E.asks(FormEdgesTest::sandy, 0, 1, 1, 0, -1, (x, v) -> x.sands(v, 0, 0));
        E.asks(FormEdgesTest::sandy, 0, 6, 1, 3, -1, (x, v) -> x.sands(v, 0, 1));
        E.of(28, "NONE: no such RAIN");
        E.asks(FormEdgesTest::sandy, 0, 6, 1, 0, -1, (x, v) -> x.sands(0, v, 1));
        E.of(28, "NONE: no such what");
        E.asks(FormEdgesTest::sandy, 0, 1, 2, 0, -1, (x, v) -> x.sands(0, 0, v));
        E.of(28, "NONE: nothing dug");
        for (int what = 0; what < 3; what++) {
            int asked = what;
            E.refused("what " + what, Made::told, -1, x -> x.sands(0, 0, asked));
        }
    }

    private static void sandsTies() {
        E.of(28, "the REACH with the most MUD (of several the lowest)");
        E.due("head and next alike", sandy().sands(1, 0, 0), 0);
        E.due("all alike, none", sandy().sands(0, 1, 0), 0);
        E.due("none", sandy().sands(0, 1, 1), 0);
        // Clay keeps its load by a flow of 1, turf lets it go on to the next.
        String[] ditches = {"cb30w9,cb20w9,cb10w9", "tb30w9,cb20w9,cb10w9", "tb30w9,tb20w9,cb10w9", "cb30w9,tb20w9,cb10w9"};
        int[] reach = {0, 1, 2, 2};
        int[] mud = {1, 2, 3, 2};
        for (int i = 0; i < 4; i++) {
            DitchOpen x = Due.dug(ditches[i], "y:1", null, "9");
            E.due(ditches[i] + ": where", x.sands(0, 0, 0), reach[i]);
            E.due(ditches[i] + ": how much", x.sands(0, 0, 1), mud[i]);
        }
        DitchOpen x = Due.dug("c" + ",c".repeat(19), "y:0", null, "9");
        E.due("twenty alike", x.sands(0, 0, 0), 0);
        x = Due.dug("tb50w9" + ",tb50w9".repeat(18) + ",sb0w9", "y:d>9?1", null, "9");
        E.due("the last of twenty", x.sands(0, 0, 0), 19);
    }

    private static void sandsAnew() {
        E.of(28, "dug anew by the LAWS and the seed that the DITCH that stands was DUG with");
        for (long seed : new long[] {0, 1, 2, 3, 4, 5, Long.MIN_VALUE, Long.MAX_VALUE, -1}) {
            DitchOpen x = Due.dug("c,c,c", "y:0", "y:50", "0,0,0");
            x.dig(0, 0, 1, seed);
            x.run(0);
            x.run(0);
            x.clean(0);
            int[] slips = new int[3];
            long s = seed;
            for (int draw = 0; draw < 9; draw++) {
                s = s * 6364136223846793005L + 1442695040888963407L;
                slips[draw % 3] += (s >>> 33) % 100 < 50 ? 1 : 0;
            }
            int at = slips[0] >= slips[1] && slips[0] >= slips[2] ? 0 : slips[1] >= slips[2] ? 1 : 2;
            E.due("seed " + seed + ": where", x.sands(0, 0, 0), at);
            E.due("seed " + seed + ": how much", x.sands(0, 0, 1), 5 * slips[at]);
            x.dig(0, 0, -1, seed);
            E.due("seed " + seed + ": without slips", x.sands(0, 0, 1), 0);
        }
        E.of(28, "all that was CUT: none, some");
        DitchOpen x = Due.dug("sb90w9,cb0w9", "y:7", "y:100", "0", "0,98");
        x.set(1, 0);
        E.due("no mud ahead", x.sands(0, 0, 2), 0);
        E.due("in four rounds", x.sands(0, 1, 2), 4);
        E.due("nothing cut as it stands", x.all(6), 0);
    }

    // ---- Promise 29

    /** Level 1 above the bed by rains of 1 (0) or of 1 and 0 (1); beds 10 and 0, fields 20 and 30. */
    private static DitchOpen sinking() {
        DitchOpen x = Due.dug("cb10w9f20,cb10w9f20", "y:0", null, "1", "1,0");
        Due.text(x, 0, "cb0w9f30,cb0w9f99");
        return Made.kept(x);
    }

    private static void sinksRefused() {
        E.of(29, "NONE: no such DITCH");
        E.asks(FormEdgesTest::sinking, 0, 20, 1, 30, -1, (x, v) -> x.sinks(v, 0, 1, 0));
        E.of(29, "NONE: no such RAIN");
        E.asks(FormEdgesTest::sinking, 0, 20, 1, 20, -1, (x, v) -> x.sinks(0, v, 1, 0));
        E.of(29, "so much 1 .. 9");
        E.asks(FormEdgesTest::sinking, 1, 20, 9, 3, -1, (x, v) -> x.sinks(0, 0, v, 0));
        // Wet without sinking, too.
        E.asks(() -> Made.kept(Due.dug("cb0f0,cb0f0", "y:0", null, "1")), 1, 1, 9, 1, -1, (x, v) -> x.sinks(0, 0, v, 0));
        E.of(29, "a bound 0 .. 999");
        E.asks(FormEdgesTest::sinking, 0, 20, 999, -1, -1, (x, v) -> x.sinks(0, 0, 1, v));
        E.of(29, "NONE: nothing dug");
        E.refused("sinks", Made::told, -1, x -> x.sinks(0, 0, 9, 0));
    }

    private static void sinksBounds() {
        E.of(29, "HARM of all is above a bound");
        E.due("harm 2, bound 1", sinking().sinks(0, 0, 1, 1), 20);
        E.due("harm 2, bound 2", sinking().sinks(0, 0, 1, 2), -1);
        E.due("harm 4, bound 3", sinking().sinks(0, 1, 1, 3), 20);
        E.due("harm 4, bound 4", sinking().sinks(0, 1, 1, 4), -1);
        DitchOpen x = Due.dug("cb0f0" + ",cb0f0".repeat(19), "y:0", null, "1" + ",0".repeat(29));
        E.due("harm 600, bound 599", x.sinks(0, 0, 1, 599), 1);
        E.due("harm 600, bound 600", x.sinks(0, 0, 1, 600), -1);
        E.of(29, "the first year (1 .. 30)");
        int[] fields = {0, 1, 2, 29, 30, 31};
        int[] years = {1, 1, 2, 29, 30, -1};
        for (int i = 0; i < fields.length; i++) {
            x = Due.dug("cb0w9f" + fields[i] + ",cb0w9f99", "y:0", null, "1");
            E.due("field " + fields[i], x.sinks(0, 0, 1, 0), years[i]);
        }
        E.due("in year 10, by 2", sinking().sinks(0, 0, 2, 0), 10);
        E.due("in year 4, by 8", Due.dug("cb0w9f25,cb0w9f99", "y:0", null, "1").sinks(0, 0, 8, 0), 4);
        E.due("in year 3, by 8", Due.dug("cb0w9f24,cb0w9f99", "y:0", null, "1").sinks(0, 0, 8, 0), 3);
    }

    private static void sinksAtLeast() {
        E.of(29, "BEDS less (0 at least)");
        // Below 0 the level would stay below the field for ever.
        E.due("bed 10, field 20", sinking().sinks(0, 0, 9, 0), 3);
        E.due("bed 0, field 30", sinking().sinks(1, 0, 9, 0), 4);
        E.of(29, "FIELDS less (0 at least)");
        DitchOpen x = sinking();
        x.set(1, 0);
        // Level 0 is not above a field of 0.
        E.due("level 0", x.sinks(0, 0, 9, 0), -1);
        E.of(29, "the DITCH as told: BEDS and FIELDS of each year from what is told");
        x = sinking();
        E.due("20", x.sinks(0, 0, 1, 0), 20);
        E.due("again", x.sinks(0, 0, 1, 0), 20);
        E.due("bed as told", x.reach(0, 0, 1), 10);
        E.due("field as told", x.reach(0, 0, 4), 20);
        E.of(29, "the MOUTH does not sink");
        // The last reach is drained to its bed or to the tide, and its field is as high as its bed.
        int[] years = {6, 5, 4};
        for (int tide = 4; tide <= 6; tide++) {
            x = Due.dug("tb99w1f99,tb9w1f9", "y:99", null, "3");
            x.set(0, tide);
            x.set(1, 0);
            E.due("tide " + tide, x.sinks(0, 0, 1, 0), years[tide - 4]);
        }
    }

    // ---- Promise 30

    /** Levels 19 behind a rain of 8 (0), 35 behind one of 24 (1), 36 behind one of 25 (2). */
    private static DitchOpen banked() {
        DitchOpen x = Due.dug("cb10w1f12,cb10w1o1f30", "y:0", null, "8", "24", "25");
        Due.text(x, 0, "cb10w1o2f5,cb10w1o5f6");
        x.day(9);
        return Made.kept(x);
    }

    private static void raisedRefused() {
        E.of(30, "NONE: no such DITCH");
        E.asks(FormEdgesTest::banked, 0, 7, 1, 0, -1, (x, v) -> x.raised(v, 0, 0));
        E.of(30, "NONE: no such RAIN");
        E.asks(FormEdgesTest::banked, 0, 7, 2, 24, -1, (x, v) -> x.raised(0, v, 0));
        E.of(30, "NONE: no such OWNER (0 .. 5)");
        E.asks(FormEdgesTest::banked, 0, 0, 5, 13, -1, (x, v) -> x.raised(1, 0, v));
        E.changesNothing("who has no REACHES", FormEdgesTest::banked, 0, x -> x.raised(0, 0, 5));
        E.of(30, "NONE: nothing dug");
        E.refused("raised", Made::told, -1, x -> x.raised(0, 0, 0));
    }

    private static void raisedBounds() {
        E.of(30, "the least so much (0 .. 30)");
        E.due("0: level 19, field 30", banked().raised(0, 0, 1), 0);
        E.due("30: level 35, field 5", banked().raised(1, 1, 2), 30);
        E.due("31: level 36, field 5", banked().raised(1, 2, 2), -1);
        E.due("30: level 36, field 6", banked().raised(1, 2, 5), 30);
        int[] fields = {20, 19, 18, 17};
        int[] due = {0, 0, 1, 2};
        for (int i = 0; i < 4; i++) {
            DitchOpen x = Due.dug("cb10w1f" + fields[i] + ",cb10w1o1f30", "y:0", null, "8");
            E.due("level 19, field " + fields[i], x.raised(0, 0, 0), due[i]);
        }
        E.of(30, "FIELDS of one OWNER");
        DitchOpen x = Due.dug("cb10w1f12,cb10w1f9,cb10w1o1f3", "y:0", null, "8");
        E.due("the lower of two", x.raised(0, 0, 0), 10);
        E.due("another's", x.raised(0, 0, 1), 16);
        E.of(30, "FIELDS above 99");
        x = Due.dug("cb99w1f99,cb99w1f80", "y:0", null, "8");
        // Level 99, mud 1, water 8: 108.
        E.due("28 of the lower", x.raised(0, 0, 0), 28);
    }

    // ---- Promises 41 and 42

    private static void imageRefused() {
        E.of(41, "NONE: nothing dug");
        E.refused("image", Made::told, -1, DitchOpen::image);
        E.refused("image of a new object", DitchOpen::new, -1, DitchOpen::image);
        E.of(42, "NONE: no IMAGE");
        E.refused("back with nothing dug", Made::told, -1, DitchOpen::back);
        E.refused("back of a new object", DitchOpen::new, -1, DitchOpen::back);
        E.refused("back with one dug", () -> {
            DitchOpen x = Made.told();
            x.dig(0, 0, 1, 5);
            x.run(0);
            return x;
        }, -1, DitchOpen::back);
        E.refused("back behind an image refused", () -> {
            DitchOpen x = Made.told();
            x.image();
            x.dig(0, 0, 1, 5);
            return x;
        }, -1, DitchOpen::back);
    }

    private static DitchOpen imaged() {
        DitchOpen x = Made.dug();
        x.image();
        return x;
    }

    private static void same(String what, DitchOpen x) {
        E.due(what, Standing.of(x).equals(Standing.of(imaged())), true);
    }

    private static void imageKeeps() {
        E.of(41, "days");
        DitchOpen x = Due.dug("c,c", "y:9", null);
        for (int day = 0; day <= 3; day++) {
            E.due("image of day " + day, x.image(), day);
            E.due("back to day " + day, x.back(), day);
            x.day(9);
        }
        E.of(42, "it stands so again");
        x = imaged();
        E.due("back at once", x.back(), 4);
        same("at once", x);
        x = imaged();
        x.run(1);
        x.clean(1);
        x.clean(0);
        x.shut(0, false);
        x.shut(3, true);
        E.due("back", x.back(), 4);
        same("behind days, cleaning, shutting", x);
        x = imaged();
        x.dig(1, 2, -1, 9);
        x.run(0);
        E.due("back", x.back(), 4);
        same("behind another digging", x);
        x = imaged();
        x.dig(0, 0, 1, 9);
        x.run(0);
        x.rise(0, 0);
        x.turn(0);
        x.sinks(1, 0, 1, 0);
        x.falls(20, 0, 1, 0, 0, 0);
        E.due("back", x.back(), 4);
        same("behind what was tried", x);
        E.of(42, "not TIDE, SILT, SUMMER, STAFFS");
        x = imaged();
        x.set(0, 99);
        x.set(1, 0);
        x.set(2, 0);
        x.staff(0, 0);
        int off = x.off(1, -1);
        x.back();
        E.due("tide", x.count(5), 99);
        E.due("silt", x.count(6), 0);
        E.due("summer", x.count(7), 0);
        E.due("staff", x.off(1, -1), off);
        x.staff(0, 11);
        E.due("another staff", x.off(1, -1) != off, true);
    }

    private static void imageAgain() {
        E.of(42, "the IMAGE stays");
        DitchOpen x = imaged();
        for (int again = 0; again < 3; again++) {
            x.run(0);
            E.due("back " + again, x.back(), 4);
        }
        same("three times", x);
        E.of(41, "instead of the one ahead");
        x = Made.dug();
        E.due("the one ahead", x.back(), 3);
        x = Made.dug();
        E.due("another", x.image(), 4);
        x.day(0);
        E.due("back to it", x.back(), 4);
        same("it alone", x);
        E.of(41, "an IMAGE of one with fewer REACHES");
        x = imaged();
        x.dig(1, 0, -1, 5);
        E.due("of day 0", x.image(), 0);
        x.dig(0, 0, -1, 5);
        E.due("back", x.back(), 0);
        E.due("two reaches", x.count(4), 2);
        E.due("none behind", x.at(2, 0), -1);
    }
}
