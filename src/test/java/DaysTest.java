/** Promises 8 to 16, 35, 38, 41 and 42: digging, days, what stands, cleaning, shutting, images. */
public final class DaysTest {
    private static final Due D = new Due();

    public static void main(String[] args) {
        set();
        dig();
        flows();
        load();
        slowAndFast();
        cuts();
        letters();
        sums();
        conditions();
        slips();
        reeds();
        wet();
        ownersClean();
        shut();
        bounds();
        work();
        longest();
        image();
        D.finish("DaysTest");
    }

    /** Promise 8. */
    private static void set() {
        DitchOpen x = new DitchOpen();
        int[] most = {99, 9, 1};
        for (int what = 0; what < 3; what++) {
            D.due("set most", x.set(what, most[what]), true);
            D.due("it is so", x.count(5 + what), most[what]);
            D.due("above", x.set(what, most[what] + 1), false);
            D.due("below", x.set(what, -1), false);
            D.due("far", x.set(what, Integer.MIN_VALUE), false);
            D.due("it stays", x.count(5 + what), most[what]);
            D.due("set 0", x.set(what, 0), true);
            D.due("it is 0", x.count(5 + what), 0);
        }
        D.due("no such what", x.set(3, 0), false);
        D.due("no such what", x.set(-1, 0), false);
    }

    /** Promise 9. */
    private static void dig() {
        DitchOpen x = Due.dug("cb5w1f3,cb0w1", "y:0", "y:100", "2,0");
        x.set(2, 1);
        x.run(0);
        x.clean(0);
        x.run(0);
        x.shut(0, true);
        D.due("wrong ditch", x.dig(1, 0, -1, 0), false);
        D.due("wrong ditch", x.dig(-1, 0, -1, 0), false);
        D.due("wrong flow", x.dig(0, 2, -1, 0), false);
        D.due("flow is needed", x.dig(0, -1, -1, 0), false);
        D.due("wrong slips", x.dig(0, 0, 2, 0), false);
        D.due("wrong slips", x.dig(0, 0, -2, 0), false);
        D.due("refused changes nothing", x.all(0), 4);
        D.due("there is mud", x.all(2) > 0 && x.all(7) > 0 && x.owner(0, 1) > 0 && x.at(0, 3) > 0, true);
        D.due("anew", x.dig(0, 0, -1, 7), true);
        for (int what = 0; what < 9; what++) {
            D.due("all " + what + " is 0", x.all(what), 0);
        }
        for (int what = 0; what < 9; what++) {
            D.due("at 0, " + what, x.at(0, what), what == 1 ? 5 : 0);
        }
        D.due("spent", x.owner(0, 1), 0);
        x.run(0);
        D.due("no slips without their law", x.all(8), 0);
        D.due("and with it again", x.dig(0, 0, 1, 7), true);
        x.run(0);
        D.due("each day in each reach", x.all(8), 4);
        D.due("one law for both", x.dig(0, 1, 1, 7), true);
    }

    /** Promise 10, water: four rounds by hand. Beds 20 and 0, width 1, mouth at 0. */
    private static void flows() {
        DitchOpen x = Due.dug("tb20w1,cb0w1", "y:99", null);
        x.set(1, 2);
        D.due("day", x.day(30), 1);
        // 20 30; 10 20; 0 10; 0 0 flow: 60 in all, with all load.
        D.due("water", x.all(1), 0);
        D.due("out", x.all(4), 60);
        D.due("load out", x.all(5), 4);
        D.due("mud", x.all(2), 0);
        D.due("flow of the last round", x.at(0, 5) * 100 + x.at(1, 5), 0);

        // The law bounds it: 9 a round.
        x = Due.dug("tb20w1,cb0w1", "y:9", null);
        x.day(30);
        // 9 9; 9 9; 2 9; 7 9 flow, as the levels are 50 30; 41 30; 32 30; 30 23.
        D.due("head", x.at(0, 0), 3);
        D.due("mouth", x.at(1, 0), 21);
        D.due("out", x.all(4), 36);
        D.due("flow of head", x.at(0, 5), 7);
        D.due("flow of mouth", x.at(1, 5), 9);

        // What it is above the next, times width, bounds it: levels 23 23, the tide 22.
        x = Due.dug("cb20w4,cb20w4", "y:99", null);
        x.set(0, 22);
        x.set(1, 0);
        x.day(12);
        // 0 4; 4 0; 0 4; 0 0 flow: levels 23 22; 22 23; 22 22.
        D.due("stays", x.all(1), 16);
        D.due("out", x.all(4), 8);
        D.due("level of head", x.at(0, 1), 22);
        D.due("level of mouth", x.at(1, 1), 22);

        // No water comes from the mouth, none goes up.
        x = Due.dug("cb0w1,cb9w1", "y:99", null);
        x.set(0, 99);
        x.day(5);
        D.due("head", x.at(0, 0), 5);
        D.due("last", x.at(1, 0), 5);
        // What the law tells below 0 is none.
        x = Due.dug("cb9w1,cb0w1", "y:0-5", null);
        x.day(5);
        D.due("head keeps", x.at(0, 0), 5);
        D.due("out", x.all(4), 0);
    }

    /** Promise 10, load: settles or goes, all at once. */
    private static void load() {
        // Turf lets 3 of load go on by a flow of 3, sand does not: it settles behind it.
        DitchOpen x = Due.dug("tb10w1,sb0w1", "y:9", null);
        x.set(1, 3);
        x.day(3);
        D.due("head", x.at(0, 2), 0);
        D.due("behind", x.at(1, 2), 6);
        // No load on a dry day.
        x = Due.dug("tb10w1,sb0w1", "y:0", null);
        x.set(1, 9);
        x.day(0);
        D.due("dry", x.all(2), 0);
        x.day(1);
        D.due("wet", x.all(2), 18);
        // Four rounds carry load four reaches far; what has not settled stands as load.
        x = Due.dug("tb50w9,tb40w9,tb30w9,tb20w9,tb10w9,tb0w9", "y:1", null);
        x.day(9);
        D.due("out of four", x.all(5), 4);
        D.due("two are on their way", x.at(4, 4) * 10 + x.at(5, 4), 11);
        D.due("load", x.all(3), 2);
        D.due("flow", x.at(0, 5), 1);
        D.due("head", x.at(0, 0), 5);
        D.due("next", x.at(1, 0), 9);
    }

    /** A head that flows as the law tells, mud in it or not. */
    private static DitchOpen head(char soil, int flow, int mud, int silt) {
        DitchOpen x = Due.dug(soil + "b90w9,cb0w9", "y:" + flow, null);
        if (mud > 0) {
            x.shut(0, true);
            x.set(1, mud);
            x.day(1);
            x.shut(0, false);
        }
        x.set(1, silt);
        x.day(98);
        return x;
    }

    private static void slowAndFast() {
        String soils = "cst";
        int[] slow = {2, 4, 1};
        int[] fast = {12, 6, 20};
        for (int s = 0; s < 3; s++) {
            char soil = soils.charAt(s);
            D.due(soil + " below slow", head(soil, slow[s] - 1, 0, 7).at(0, 2), 7);
            D.due(soil + " at slow", head(soil, slow[s], 0, 7).at(0, 2), 0);
            D.due(soil + " at fast", head(soil, fast[s], 3, 0).at(0, 2), 3);
            D.due(soil + " above fast", head(soil, fast[s] + 1, 7, 0).at(0, 2), 3);
            D.due(soil + " above fast till it is gone", head(soil, fast[s] + 1, 3, 0).at(0, 2), 0);
            D.due(soil + " cut at the head", head(soil, fast[s] + 1, 3, 0).all(6) >= 3, true);
        }
    }

    private static void cuts() {
        DitchOpen x = Due.dug("tb20w1,cb0w1", "y:99", null);
        x.set(1, 2);
        x.shut(0, true);
        x.shut(1, true);
        x.day(1);
        x.shut(0, false);
        x.shut(1, false);
        x.set(1, 0);
        x.day(30);
        // Clay flows 31, 20, 11: two of the mud are cut; turf flows 20, 11: none.
        D.due("cut", x.all(6), 2);
        D.due("it goes as load", x.all(5), 2);
        D.due("mud of turf", x.at(0, 2), 2);
        D.due("mud of clay", x.at(1, 2), 0);
        // Cut mud is load of the next, and settles there.
        x = Due.dug("sb50w1,sb0w9f99", "y:7", null);
        x.set(1, 3);
        x.shut(0, true);
        x.shut(1, true);
        x.day(30);
        x.set(1, 0);
        x.shut(0, false);
        x.day(0);
        D.due("cut three times", x.all(6), 3);
        D.due("none left", x.at(0, 2), 0);
        D.due("all settled behind it", x.at(1, 2), 6);
        D.due("no load", x.all(3), 0);
    }

    /** The flow that a law tells of a head with so much mud: behind one day. */
    private static int told(String law, String slips, int days, int silt) {
        DitchOpen x = Due.dug("tb90w3f99,tb0w9f99", law, slips);
        x.set(2, 1);
        x.set(1, silt);
        x.shut(0, true);
        for (int i = 0; i < days; i++) {
            x.day(40);
        }
        x.shut(0, false);
        x.day(7);
        return x.at(0, 5);
    }

    /** Each letter, as it is asked in the last round. */
    private static void letters() {
        D.due("w", told("y:w", null, 1, 0), 3);
        D.due("s", told("y:s", null, 1, 0), 2);
        D.due("q", told("y:q", null, 1, 0), 7);
        D.due("r", told("y:r", null, 4, 0), 4);
        D.due("m", told("y:m", null, 2, 2), 4);
        D.due("n", told("y:n", "y:100", 3, 0), 3);
        // Water 47, 46, 45, 44, by 3; then 47, 45, 43, 42.
        D.due("h", told("y:h/14", null, 1, 0), 1);
        D.due("h", told("y:h-13", null, 1, 0), 1);
        D.due("s of sand", headFlow("s", "y:s+5"), 6);
        D.due("s of clay", headFlow("c", "y:s+5"), 5);
        // d is 91 less 1 in each round.
        DitchOpen x = Due.dug("tb90w9,tb0w9", "y:d-90", null);
        x.shut(1, true);
        x.set(1, 0);
        x.day(9);
        D.due("d", x.at(0, 5), 0);
        x = Due.dug("tb90w9,tb0w9", "y:d-88", null);
        x.shut(1, true);
        x.set(1, 0);
        x.day(9);
        // 90: 2 go, then 90 + 7 / 9 less 0 + 11 / 9: 89, 1 goes, again 1, again 1.
        D.due("d goes on", x.at(0, 5), 1);
        D.due("d went", x.at(0, 0), 4);
    }

    private static int headFlow(String soil, String law) {
        DitchOpen x = Due.dug(soil + "b90w9,cb0w9", law, null);
        x.day(90);
        return x.at(0, 5);
    }

    private static void sum(String sum, int due) {
        D.due("SUM " + sum, headFlow("t", "y:" + sum), due);
    }

    private static void sums() {
        sum("2+3*4", 14);
        sum("20-3-4", 13);
        sum("20-[3-4]", 21);
        sum("40/4/2", 5);
        sum("40/4*2", 20);
        sum("[2+3]*4", 20);
        sum("7/2", 3);
        sum("[0-7]/2+20", 17);
        sum("9/0+5", 5);
        sum("9999*9999/9999-90", 10);
        sum("[0-9999*9999]/9999+110", 10);
        sum("9999*9999-9999*99-9999-92", 8);
        sum("9999*100+9999+9999-9999*99-9999-92", 8);
        sum("0-9999*100-9999+9999*99+9999+110", 10);
    }

    private static void law(String law, int due) {
        D.due("LAW " + law, headFlow("t", law), due);
    }

    private static void conditions() {
        law("y:1=2?5;y:1<2?7;y:9", 7);
        law("y:1=1?5;y:1<2?7;y:9", 5);
        law("y:1=2?5;y:2<1?7;y:9", 9);
        law("y:9;y:7", 9);
        law("y:1=2?5", 0);
        law("y:2>1?5;y:9", 5);
        law("y:1>1?5;y:9", 9);
        law("y:1<1?5;y:9", 9);
        law("y:1=2&1=1|2=2?5;y:9", 5);
        law("y:2=2|1=2&1=2?5;y:9", 5);
        law("y:(2=2|1=2)&1=2?5;y:9", 9);
        law("y:!1=2&1=2?5;y:9", 9);
        law("y:!(1=2&1=2)?5;y:9", 5);
        law("y:!!1=1?5;y:9", 5);
        law("y:!1=2?5;y:9", 5);
        law("y:1=1&2=2&3=4?5;y:9", 9);
        law("y:1+2=6/2?5;y:9", 5);
        law("y : [ 1 + 2 ] * 2 > 5 & ! ( w = 8 ) ? 5 ; y : 9", 5);
        law("y:1=2|2=3|3=3?[2+2]*2;y:9", 8);
    }

    private static long next(long x) {
        return x * 6364136223846793005L + 1442695040888963407L;
    }

    /** Draws for each reach each day, from the head. */
    private static void slips() {
        DitchOpen x = Due.dug("cb90w1,cb90w1,cb90w1", "y:0", "y:37");
        D.due("dig", x.dig(0, 0, 1, -123456789L), true);
        long seed = -123456789L;
        int[] slips = new int[3];
        for (int day = 0; day < 12; day++) {
            x.day(0);
            for (int i = 0; i < 3; i++) {
                seed = next(seed);
                slips[i] += (seed >>> 33) % 100 < 37 ? 1 : 0;
            }
        }
        for (int i = 0; i < 3; i++) {
            D.due("slips of " + i, x.at(i, 6), slips[i]);
            D.due("mud of " + i, x.at(i, 2), 5 * slips[i]);
        }
        D.due("all slips", x.all(8), slips[0] + slips[1] + slips[2]);
        D.due("some, not all", x.all(8) > 0 && x.all(8) < 36, true);
        // A draw is below 100 and may be 0.
        x = Due.dug("cb90w1,cb90w1", "y:0", "y:100");
        x.day(0);
        D.due("100 always", x.all(8), 2);
        x = Due.dug("cb90w1,cb90w1", "y:0", "y:0");
        for (int day = 0; day < 100; day++) {
            x.day(0);
        }
        D.due("0 never", x.all(8), 0);
        // The law is asked as it is then: slips so far, mud, rain, a fall below 0.
        x = Due.dug("cb50w1,cb90w1", "y:0", "y:n=0&d<0-39?100;y:0");
        x.day(0);
        x.day(0);
        D.due("the head slips once", x.at(0, 6) * 10 + x.at(1, 6), 10);
    }

    private static void reeds() {
        DitchOpen x = Due.dug("cb90w1,cb90w1o1", "y:0", null);
        x.day(0);
        D.due("none out of summer", x.at(0, 3), 0);
        x.set(2, 1);
        for (int day = 0; day < 98; day++) {
            x.day(0);
        }
        D.due("98", x.at(1, 3), 98);
        x.day(0);
        x.day(0);
        D.due("99 at most", x.at(1, 3), 99);
        D.due("no mud: reeds by 10, cut", x.clean(1), 9);
        D.due("gone", x.at(1, 3), 0);
        D.due("the other's stay", x.at(0, 3), 99);
    }

    private static void wet() {
        DitchOpen x = Due.dug("cb10w1o2f15,cb10w2o2f15,cb10w1f14", "y:0", null);
        x.set(1, 0);
        x.day(5);
        // Levels 15, 12, 15: at the field is not above it.
        D.due("wet", x.at(0, 7) * 100 + x.at(1, 7) * 10 + x.at(2, 7), 1);
        D.due("harm of 0", x.owner(0, 0), 1);
        D.due("harm of 2", x.owner(2, 0), 0);
        x.day(1);
        D.due("wet", x.at(0, 7) * 100 + x.at(1, 7) * 10 + x.at(2, 7), 101);
        x.day(7);
        D.due("wet", x.at(0, 7) * 100 + x.at(1, 7) * 10 + x.at(2, 7), 111);
        D.due("harm of 2", x.owner(2, 0), 3);
        D.due("harm of all", x.all(7), 6);
    }

    /** Promises 14 and 15. */
    private static void ownersClean() {
        DitchOpen x = Due.dug("cw1o1,cw1,cw1o1,cw1o5", "y:0", null);
        x.set(2, 1);
        x.set(1, 3);
        for (int day = 0; day < 19; day++) {
            x.day(day < 4 ? 1 : 0);
        }
        // Each has mud 12 and reeds 19: 13, not 13 and 9 tenths.
        D.due("clean", x.clean(1), 26);
        D.due("spent", x.owner(1, 1), 26);
        D.due("mud", x.at(0, 2) + x.at(2, 2), 0);
        D.due("reeds", x.at(0, 3) + x.at(2, 3), 0);
        D.due("others' mud", x.at(1, 2), 12);
        D.due("nothing more", x.clean(1), 0);
        x.day(1);
        D.due("again", x.clean(1), 6);
        D.due("spent in all", x.owner(1, 1), 32);
        D.due("spent by others", x.owner(0, 1), 0);
        D.due("no reaches", x.clean(4), 0);
        D.due("reaches of 1", x.owner(1, 2), 2);
        D.due("reaches of 5", x.owner(5, 2), 1);
        D.due("reaches of 4", x.owner(4, 2), 0);
        for (int owner : new int[] {-1, 6, Integer.MAX_VALUE}) {
            D.due("clean " + owner, x.clean(owner), -1);
            D.due("owner " + owner, x.owner(owner, 0), -1);
        }
        D.due("no such what", x.owner(0, 3), -1);
        D.due("no such what", x.owner(0, -1), -1);
        // Load stays.
        x = Due.dug("tb50w9,tb40w9,tb30w9,tb20w9,tb10w9,tb0w9", "y:1", null);
        x.day(9);
        x.clean(0);
        D.due("load stays", x.all(3), 2);
    }

    /** Promise 16. */
    private static void shut() {
        DitchOpen x = Due.dug("cb10w1,cb0w1", "y:99", null);
        D.due("shut", x.shut(0, true), true);
        D.due("it is", x.at(0, 8), 1);
        x.day(5);
        D.due("it keeps its water", x.at(0, 0), 5);
        D.due("its load settles", x.at(0, 2), 1);
        D.due("the other goes", x.at(1, 0), 0);
        D.due("open", x.shut(0, false), true);
        D.due("it is open", x.at(0, 8), 0);
        x.day(0);
        D.due("it goes", x.at(0, 0), 0);
        D.due("no such reach", x.shut(2, true), false);
        D.due("no such reach", x.shut(-1, true), false);
    }

    /** Promises 10 to 13, wrong inputs. */
    private static void bounds() {
        DitchOpen x = Due.dug("c,c", "y:9", null, "3,0,4");
        D.due("day -1", x.day(-1), -1);
        D.due("day 100", x.day(100), -1);
        D.due("no day went", x.all(0), 0);
        D.due("day 99", x.day(99), 1);
        D.due("day 0", x.day(0), 2);
        D.due("run", x.run(0), 5);
        D.due("no such rain", x.run(1), -1);
        D.due("no such rain", x.run(-1), -1);
        D.due("days", x.all(0), 5);
        D.due("no such reach", x.at(2, 0), -1);
        D.due("no such reach", x.at(-1, 0), -1);
        D.due("no such what", x.at(0, 9), -1);
        D.due("no such what", x.at(0, -1), -1);
        D.due("no such what", x.all(9), -1);
        D.due("no such what", x.all(-1), -1);
    }

    /** Promise 35. */
    private static void work() {
        DitchOpen x = Due.dug("cw1,sw1,tw1", "y:0", null);
        x.set(1, 2);
        x.set(2, 1);
        for (int day = 0; day < 19; day++) {
            x.day(day < 2 ? 1 : 0);
        }
        // Mud 4, reeds 19: 5, times 3, 1, 2.
        D.due("clay", x.work(0), 15);
        D.due("sand", x.work(1), 5);
        D.due("turf", x.work(2), 10);
        D.due("all", x.work(-1), 30);
        D.due("no such reach", x.work(3), -1);
        D.due("no such reach", x.work(-2), -1);
    }

    /** Promise 38. */
    private static void longest() {
        DitchOpen x = Due.dug("cf49,cf99,cf49,cf49,cf99,cf49,cf49", "y:0", null);
        D.due("none yet", x.longest(0), -1);
        D.due("none yet, how many", x.longest(1), 0);
        x.day(0);
        D.due("the first of two", x.longest(0), 2);
        D.due("two", x.longest(1), 2);
        D.due("no such what", x.longest(2), -1);
        D.due("no such what", x.longest(-1), -1);
        x = Due.dug("cf99,cf49,cf49,cf49", "y:0", null);
        x.day(0);
        D.due("up to the mouth", x.longest(0) * 10 + x.longest(1), 13);
        x = Due.dug("cf49,cf99,cf99", "y:0", null);
        x.day(0);
        D.due("the head", x.longest(0) * 10 + x.longest(1), 1);
    }

    /** Promises 41 and 42. */
    private static void image() {
        DitchOpen x = Due.dug("cb20w2f20,cb0w3o1f3", "y:h", "y:40", "9,30");
        Due.text(x, 0, "t,t,t");
        Due.text(x, 1, "y:0");
        D.due("none", x.back(), -1);
        x.run(0);
        x.shut(1, true);
        x.clean(1);
        x.set(2, 1);
        x.run(0);
        D.due("image", x.image(), 4);
        String then = stands(x);
        x.run(0);
        x.shut(1, false);
        x.clean(0);
        String later = stands(x);
        D.due("it went on", then.equals(later), false);
        x.set(0, 7);
        x.staff(0, 30);
        D.due("back", x.back(), 4);
        D.due("as it stood", stands(x).equals(then), true);
        D.due("tide is not of it", x.count(5), 7);
        D.due("staffs are not of it", x.off(0, -1) > 0, true);
        x.set(0, 0);
        x.run(0);
        x.shut(1, false);
        x.clean(0);
        D.due("the same draws again", stands(x).equals(later), true);
        D.due("another one is dug", x.dig(1, 2, -1, 1), true);
        x.day(5);
        D.due("three reaches", x.count(4), 3);
        D.due("back to the other", x.back(), 4);
        D.due("two reaches", x.count(4), 2);
        D.due("as it stood", stands(x).equals(then), true);
        x.run(0);
        x.shut(1, false);
        x.clean(0);
        D.due("by its laws", stands(x).equals(later), true);
        D.due("a new image", x.image(), 6);
        x.run(0);
        D.due("instead of the one ahead", x.back(), 6);
        D.due("as that stood", stands(x).equals(later), true);
    }

    private static String stands(DitchOpen x) {
        StringBuilder t = new StringBuilder();
        for (int what = 0; what < 9; what++) {
            t.append(x.all(what)).append(' ');
            for (int reach = 0; reach < x.count(4); reach++) {
                t.append(x.at(reach, what)).append(' ');
            }
        }
        for (int owner = 0; owner < 6; owner++) {
            t.append(x.owner(owner, 0)).append(' ').append(x.owner(owner, 1)).append(' ');
        }
        return t.toString();
    }
}
