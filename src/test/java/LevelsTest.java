/** Promises 24 to 30, 34, 36, 37, 39 and 40: staffs, falls, sands, sinking, silt, rows, sets, fields. */
public final class LevelsTest {
    private static final Due D = new Due();

    public static void main(String[] args) {
        staff();
        where();
        falls();
        sands();
        sinks();
        raised();
        whose();
        notch();
        hit();
        banks();
        rise();
        D.finish("LevelsTest");
    }

    /** Behind a rain of 5 (0) it is empty, levels 10 and 0; the head shut: 15 and 0; the last: 10 and 10. */
    private static DitchOpen steep() {
        DitchOpen x = Due.dug("cb10w1,cb0w1", "y:9", null, "5", "0");
        x.set(1, 0);
        return x;
    }

    /** Promise 24. */
    private static void staff() {
        DitchOpen x = new DitchOpen();
        D.due("with nothing dug", x.staff(0, 0), true);
        D.due("the last", x.staff(19, 999), true);
        D.due("none", x.staff(19, -1), true);
        D.due("none where there was none", x.staff(5, -1), true);
        D.due("reach 20", x.staff(20, 5), false);
        D.due("reach -1", x.staff(-1, 5), false);
        D.due("level 1000", x.staff(0, 1000), false);
        D.due("level -2", x.staff(0, -2), false);
        x = steep();
        x.staff(0, 15);
        x.staff(0, 1000);
        D.due("refused changes nothing", x.off(0, -1), 5);
        x.staff(0, -1);
        D.due("there is none", x.off(0, -1), 0);
    }

    private static void where(DitchOpen x, int by, int bits, int open) {
        D.due("where by " + by, x.where(0, by, false), bits);
        D.due("open by " + by, x.where(0, by, true), open);
    }

    /** Promises 25 and 26. */
    private static void where() {
        DitchOpen x = steep();
        where(x, 0, 3, 1);
        D.due("off without staffs", x.off(0, 0), 0);
        x.staff(19, 500);
        where(x, 0, 3, 1);
        D.due("no such reach has a staff", x.off(0, -1), 0);
        x.staff(0, 15);
        where(x, 0, 1, 0);
        where(x, 4, 1, 0);
        where(x, 5, 3, 1);
        x.staff(1, 10);
        // Off: open 5 and 10, the head 0 and 10, the last 5 and 0: each counts by itself.
        where(x, 4, 0, 0);
        where(x, 5, 2, 0);
        where(x, 9, 2, 0);
        where(x, 10, 3, 1);
        D.due("off together", x.off(0, -1), 15);
        D.due("off, the head", x.off(0, 0), 10);
        D.due("off, the last", x.off(0, 1), 5);
        // What is shut already stays so beside.
        x.shut(0, true);
        D.due("off, both shut", x.off(0, 1), 5);
        D.due("off, as it stands", x.off(0, -1), 10);
        where(x, 9, 2, 0);
        where(x, 10, 3, 1);
        D.due("it stands as it stood", x.all(0) * 10 + x.at(1, 8), 0);
        D.due("by 100", x.where(0, 100, false), -1);
        D.due("by -1", x.where(0, -1, true), -1);
        D.due("no such rain", x.where(2, 0, true), -1);
        D.due("no such rain", x.off(2, 0), -1);
        D.due("no such reach", x.off(0, 2), -1);
        D.due("no such reach", x.off(0, -2), -1);
    }

    /** Promise 27. */
    private static void falls() {
        DitchOpen x = new DitchOpen();
        Due.text(x, 1, "y:99");
        Due.text(x, 2, "5");
        Due.text(x, 2, "5,20");
        // By falls 0 and 1 the head flows less than 2 at first: its load settles.
        D.due("by 0", x.falls(2, 0, 1, 0, 0, 0), 1020);
        D.due("by 1", x.falls(2, 0, 1, 0, 0, 1), 1023);
        // On the second day that mud is cut.
        D.due("cut", x.falls(2, 0, 1, 0, 1, 99), 1020);
        // A flow of 1 carries it on through turf, below 4 settles in sand.
        D.due("turf", x.falls(2, 2, 1, 0, 0, 0), 1022);
        D.due("sand", x.falls(2, 1, 1, 0, 0, 0), 1008);
        x.set(1, 0);
        D.due("without silt", x.falls(2, 1, 1, 0, 0, 0), 1023);
        x.set(1, 1);
        // The mouth stands above all: nothing flows.
        x.set(0, 99);
        D.due("tide", x.falls(2, 0, 1, 0, 0, 1), 0);
        D.due("tide", x.falls(2, 0, 1, 0, 0, 2), 1023);
        // Beds are told from the mouth up: 20 reaches go to 171 by falls of 9.
        D.due("twenty", x.falls(20, 0, 9, 0, 0, 20), 1023);
        D.due("nothing dug by it", x.count(4), -1);
        int[][] wrong = {{1, 0, 1, 0, 0, 0}, {21, 0, 1, 0, 0, 0}, {2, 3, 1, 0, 0, 0}, {2, -1, 1, 0, 0, 0},
            {2, 0, 0, 0, 0, 0}, {2, 0, 10, 0, 0, 0}, {2, 0, 1, 1, 0, 0}, {2, 0, 1, -1, 0, 0}, {2, 0, 1, 0, 2, 0},
            {2, 0, 1, 0, -1, 0}, {2, 0, 1, 0, 0, 100}, {2, 0, 1, 0, 0, -1}};
        for (int[] w : wrong) {
            D.due("falls " + java.util.Arrays.toString(w), x.falls(w[0], w[1], w[2], w[3], w[4], w[5]), -1);
        }
    }

    private static void sands(DitchOpen x, int ditch, int rain, int reach, int mud, int cut) {
        D.due("sands: where", x.sands(ditch, rain, 0), reach);
        D.due("sands: how much", x.sands(ditch, rain, 1), mud);
        D.due("sands: cut", x.sands(ditch, rain, 2), cut);
    }

    /** Promise 28. */
    private static void sands() {
        DitchOpen x = Due.dug("tb10w1,sb0w1", "y:9", null, "3", "0,0");
        Due.text(x, 0, "c,c,c");
        Due.text(x, 1, "y:50");
        x.set(1, 3);
        // Turf lets its 3 go, sand keeps both.
        sands(x, 0, 0, 1, 6, 0);
        sands(x, 1, 1, 0, 0, 0);
        // The ditch that stands is not asked, but the laws and the seed it was dug with are.
        x.shut(0, true);
        x.day(3);
        sands(x, 0, 0, 1, 6, 0);
        x.dig(0, 0, 1, 77L);
        x.day(0);
        x.day(0);
        int[] slips = {0, 0};
        long seed = 77L;
        for (int draw = 0; draw < 4; draw++) {
            seed = seed * 6364136223846793005L + 1442695040888963407L;
            slips[draw % 2] += (seed >>> 33) % 100 < 50 ? 1 : 0;
        }
        int at = slips[1] > slips[0] ? 1 : 0;
        sands(x, 0, 1, at, 5 * slips[at], 0);
        D.due("days", x.all(0), 2);
        D.due("what 3", x.sands(0, 0, 3), -1);
        D.due("what -1", x.sands(0, 0, -1), -1);
        D.due("no such ditch", x.sands(2, 0, 0), -1);
        D.due("no such ditch", x.sands(-1, 0, 0), -1);
        D.due("no such rain", x.sands(0, 2, 0), -1);
        // Cut: sand that has slipped in, by flows above 6.
        x = Due.dug("sb90w9,cb0w9", "y:7", "y:100", "0,98");
        x.set(1, 0);
        x.dig(0, 0, 1, 1L);
        // Mud 5 and 5; then four of the head's are cut and settle behind it; then 5 and 5 more.
        D.due("cut", x.sands(0, 0, 2), 4);
    }

    /** Promise 29. */
    private static void sinks() {
        // Mud 1 a year's rain; level 1 above the bed, which is at 0 long before the field is.
        DitchOpen x = Due.dug("cb10w9f20,cb10w9f20", "y:0", null, "1", "0");
        D.due("by 1", x.sinks(0, 0, 1, 0), 20);
        D.due("above 1", x.sinks(0, 0, 1, 1), 20);
        D.due("not above 2", x.sinks(0, 0, 1, 2), -1);
        D.due("by 2", x.sinks(0, 0, 2, 0), 10);
        D.due("by 9", x.sinks(0, 0, 9, 0), 3);
        D.due("a dry year", x.sinks(0, 1, 9, 0), -1);
        x.set(1, 0);
        D.due("no silt", x.sinks(0, 0, 9, 0), -1);
        x.set(1, 1);
        D.due("told as it was", x.reach(0, 0, 1) * 100 + x.reach(0, 0, 4), 1020);
        // The thirtieth year counts, the first too.
        Due.text(x, 0, "cb0w9f30,cb0w9f99");
        D.due("year 30", x.sinks(1, 0, 1, 0), 30);
        Due.text(x, 0, "cb0w9f31,cb0w9f99");
        D.due("year 31", x.sinks(2, 0, 1, 0), -1);
        Due.text(x, 0, "cb9w9f9,cb0w9f99");
        D.due("year 1", x.sinks(3, 0, 1, 0), 1);
        D.due("by 10", x.sinks(0, 0, 10, 0), -1);
        D.due("by 0", x.sinks(0, 0, 0, 0), -1);
        D.due("bound 1000", x.sinks(0, 0, 1, 1000), -1);
        D.due("bound -1", x.sinks(0, 0, 1, -1), -1);
        D.due("no such ditch", x.sinks(4, 0, 1, 0), -1);
        D.due("no such rain", x.sinks(0, 2, 1, 0), -1);
        D.due("days", x.all(0), 0);
    }

    /** Promise 30. */
    private static void raised() {
        // Levels 19 behind a rain of 8; 35 behind one of 24; 36 behind one of 25.
        DitchOpen x = Due.dug("cb10w1f12,cb10w1o1f30", "y:0", null, "8", "24", "25");
        Due.text(x, 0, "cb10w1o2f5,cb10w1o2f99");
        D.due("7 more", x.raised(0, 0, 0), 7);
        D.due("none more", x.raised(0, 0, 1), 0);
        D.due("no reaches", x.raised(0, 0, 5), 0);
        D.due("30 more", x.raised(1, 1, 2), 30);
        D.due("31 are too many", x.raised(1, 2, 2), -1);
        x.day(99);
        D.due("dug anew", x.raised(0, 0, 0), 7);
        D.due("days", x.all(0), 1);
        D.due("owner 6", x.raised(0, 0, 6), -1);
        D.due("owner -1", x.raised(0, 0, -1), -1);
        D.due("no such ditch", x.raised(2, 0, 0), -1);
        D.due("no such rain", x.raised(0, 3, 0), -1);
    }

    /** Promise 34. */
    private static void whose() {
        DitchOpen x = Due.dug("tb10w1,sb0w1", "y:9", null, "3", "0");
        x.set(1, 3);
        D.due("the head's goes on", x.whose(0, 0, 0), 0);
        D.due("of the last by the head's", x.whose(0, 1, 0), 3);
        D.due("of the last by its own", x.whose(0, 1, 1), 3);
        D.due("of the head by the last's", x.whose(0, 0, 1), 0);
        D.due("a dry day", x.whose(1, 1, 1), 0);
        D.due("no mud by it", x.all(2), 0);
        // What lay there is not counted.
        x.day(3);
        D.due("the same again", x.whose(0, 1, 0), 3);
        D.due("each time", x.whose(0, 1, 0), 3);
        for (int wrong : new int[] {-1, 2, Integer.MAX_VALUE}) {
            D.due("reach " + wrong, x.whose(0, wrong, 0), -1000000);
            D.due("other " + wrong, x.whose(0, 0, wrong), -1000000);
            D.due("rain " + wrong, x.whose(wrong, 0, 0), -1000000);
        }
    }

    private static void rows(DitchOpen x, int men, int most, int... begins) {
        D.due(men + " men: most", x.notch(men, -1), most);
        for (int i = 0; i < men; i++) {
            D.due(men + " men: row " + i, x.notch(men, i), begins[i]);
        }
        D.due(men + " men: no more rows", x.notch(men, men), -1);
        D.due(men + " men: -2", x.notch(men, -2), -1);
    }

    /** Promise 36. */
    private static void notch() {
        // Work 6, 2, 4, 6.
        DitchOpen x = Due.dug("c,s,t,c", "y:0", null);
        x.set(1, 2);
        x.day(1);
        rows(x, 1, 18, 0);
        rows(x, 2, 10, 0, 2);
        rows(x, 3, 6, 0, 1, 3);
        rows(x, 4, 6, 0, 1, 2, 3);
        D.due("more men than reaches", x.notch(5, -1), -1);
        D.due("no men", x.notch(0, -1), -1);
        // Work 1 each: of several the one with short first rows.
        x = Due.dug("s,s,s,s,s,s,s", "y:0", null);
        D.due("no work yet", x.notch(3, -1) * 100 + x.notch(3, 1) * 10 + x.notch(3, 2), 12);
        x.day(1);
        rows(x, 2, 4, 0, 3);
        rows(x, 3, 3, 0, 1, 4);
        rows(x, 4, 2, 0, 1, 3, 5);
        rows(x, 5, 2, 0, 1, 2, 3, 5);
        rows(x, 6, 2, 0, 1, 2, 3, 4, 5);
        D.due("seven men", x.notch(7, -1), -1);
        D.due("-1 men", x.notch(-1, -1), -1);
        // Twenty reaches, and fewer behind them.
        x = Due.dug("s" + ",s".repeat(19), "y:0", null);
        Due.text(x, 0, "s,s");
        x.day(1);
        rows(x, 6, 4, 0, 1, 4, 8, 12, 16);
        rows(x, 1, 20, 0);
        x.dig(1, 0, -1, 0);
        D.due("three men for two", x.notch(3, -1), -1);
        rows(x, 2, 0, 0, 1);
        // One row with most of the work leaves room in the others.
        x = Due.dug("so1,so1,so1,s", "y:0", null);
        x.set(1, 9);
        x.day(1);
        x.clean(1);
        rows(x, 3, 9, 0, 1, 2);
    }

    /** Promise 37. */
    private static void hit() {
        DitchOpen x = Due.dug("co1,c,co1,co1", "y:0", null);
        x.set(1, 9);
        D.due("no mud", x.hit(0, 1), 0);
        x.day(1);
        x.clean(1);
        D.due("one of four", x.hit(8, 1), 250000);
        D.due("two", x.hit(8, 2), 500000);
        D.due("three", x.hit(8, 3), 750000);
        D.due("four", x.hit(8, 4), 1000000);
        D.due("not above 9", x.hit(9, 4), 0);
        D.due("five", x.hit(0, 5), -1);
        D.due("none", x.hit(0, 0), -1);
        D.due("bound 1000", x.hit(1000, 1), -1);
        D.due("bound 999", x.hit(999, 1), 0);
        D.due("bound -1", x.hit(-1, 1), -1);
        x = Due.dug("co1,c,co1", "y:0", null);
        x.day(1);
        x.clean(1);
        D.due("one of three, cut", x.hit(0, 1), 333333);
        D.due("two of three, cut", x.hit(0, 2), 666666);
        D.due("more than reaches", x.hit(0, 4), -1);
        x = Due.dug("c" + ",co1".repeat(19), "y:0", null);
        x.day(1);
        x.clean(1);
        D.due("twenty: 969 of 4845", x.hit(0, 4), 200000);
    }

    /** Levels 19 on each of two days (0), 35 (1), 36 (2): nothing flows, the head's field at 12. */
    private static DitchOpen banked() {
        DitchOpen x = Due.dug("cb10w1f12,cb10w1o1f17,cb10w1o3f5", "y:0", null, "8,0", "24", "25");
        return x;
    }

    /** Promise 39. */
    private static void banks() {
        DitchOpen x = banked();
        D.due("7 higher", x.banks(0, 0, 7, 0), -2);
        D.due("6 higher", x.banks(0, 0, 6, 0), 0);
        D.due("none higher", x.banks(0, 0, 0, 0), 0);
        D.due("of another", x.banks(0, 0, 30, 1), 0);
        D.due("of that one", x.banks(0, 1, 2, 1), -2);
        D.due("30 higher", x.banks(1, 3, 30, 3), -1);
        D.due("it stands as it stood", x.all(0), 0);
        D.due("as it stands", x.day(1), 1);
        D.due("7 are not enough now", x.banks(0, 0, 7, 0), 0);
        int[][] wrong = {{3, 0, 1, 0}, {-1, 0, 1, 0}, {0, 6, 1, 0}, {0, -1, 1, 0}, {0, 0, 31, 0}, {0, 0, -1, 0},
            {0, 0, 1, 6}, {0, 0, 1, -1}};
        for (int[] w : wrong) {
            D.due("banks " + java.util.Arrays.toString(w), x.banks(w[0], w[1], w[2], w[3]), -1000000);
        }
    }

    /** Promise 40. */
    private static void rise() {
        DitchOpen x = banked();
        D.due("of 0", x.rise(0, 0), 7);
        D.due("of 1", x.rise(0, 1), 2);
        D.due("of 2, who has none", x.rise(0, 2), 0);
        D.due("30", x.rise(1, 3), 30);
        D.due("31", x.rise(2, 3), -1);
        x.day(1);
        D.due("as it stands", x.rise(0, 0), 9);
        D.due("owner 6", x.rise(0, 6), -1);
        D.due("owner -1", x.rise(0, -1), -1);
        D.due("no such rain", x.rise(3, 0), -1);
        D.due("days", x.all(0), 1);
    }
}
