/** Boundaries of section 3: what is tried, the game, staffs; promises 17 to 26. */
public final class CleanerEdgesTest {
    private static final Edge E = new Edge();
    private static final int HIDDEN = -1000000;
    private static final int FAR = Integer.MAX_VALUE;
    private static final int NEAR = Integer.MIN_VALUE;

    public static void main(String[] args) {
        tried();
        triedOwners();
        costs();
        first();
        firstTies();
        when();
        whenTies();
        hasRefused();
        hasEnds();
        hasWithoutReaches();
        hasShare();
        restsRefused();
        restsAlike();
        bestRefused();
        bestTies();
        staff();
        staffsOfNoReach();
        whereRefused();
        whereBounds();
        off();
        E.finish("CleanerEdgesTest", 17, 18, 19, 20, 21, 22, 23, 24, 25, 26);
    }

    /**
     * Nothing flows; each of three reaches has mud 9 and water 1, level 10, fields 5, 12, 9 of owners 0, 1, 2;
     * two dry days (0), one with a rain of 1 (1).
     */
    private static DitchOpen still() {
        return Made.kept(Made.still("cb0w1o0f5,cb0w1o1f12,cb0w1o2f9", "0,0", "1"));
    }

    /** Owner 0 at the head is wet by a rain of 4 (0) unless owner 1 cleans its mud of 9; never by a dry day (1). */
    private static DitchOpen dammed() {
        return Made.kept(Made.dammed());
    }

    // ---- Promise 17

    private static void tried() {
        E.of(17, "NONE: no such RAIN");
        E.asks(CleanerEdgesTest::still, 0, 4, 1, 2, -1, (x, v) -> x.tried(v, 0, -1));
        E.of(17, "cleaners 0 .. 63");
        E.asks(CleanerEdgesTest::still, 0, 4, 63, 0, -1, (x, v) -> x.tried(0, v, -1));
        E.asks(CleanerEdgesTest::still, 0, 2, 63, 0, -1, (x, v) -> x.tried(0, v, 2));
        E.of(17, "an OWNER 0 .. 5 (NONE: of all)");
        E.asks(CleanerEdgesTest::still, -1, 4, 5, 0, -1, (x, v) -> x.tried(0, 0, v));
        E.changesNothing("owner 0", CleanerEdgesTest::still, 2, x -> x.tried(0, 0, 0));
        E.of(17, "NONE: nothing dug");
        E.refused("tried(0, 0, 0)", Made::told, -1, x -> x.tried(0, 0, 0));
        E.refused("tried(0, 0, -1)", Made::told, -1, x -> x.tried(0, 0, -1));
    }

    private static void triedOwners() {
        E.of(17, "some OWNERS (bits) CLEAN: none, each alone, all");
        int[] due = {4, 2, 4, 0 + 2, 2, 0, 2, 0};
        for (int cleaners = 0; cleaners < 8; cleaners++) {
            E.due("cleaners " + cleaners, still().tried(0, cleaners, -1), due[cleaners]);
            E.due("and such as have no reaches", still().tried(0, cleaners | 56, -1), due[cleaners]);
        }
        E.of(17, "HARM more, from the DITCH as it stands");
        DitchOpen x = still();
        E.due("harm so far", x.all(7), 2);
        E.due("more", x.tried(0, 0, -1), 4);
        x.run(0);
        E.due("harm then", x.all(7), 6);
        E.due("more by as much", x.tried(0, 0, -1), 4);
        E.of(17, "the DAYS of a RAIN, 1 and 30");
        x = Made.still("cb0w1o0f5,cb0w1o1f12", "0", "0" + ",0".repeat(29));
        E.due("one", x.tried(0, 0, 0), 1);
        E.due("thirty", x.tried(1, 0, 0), 30);
    }

    // ---- Promise 18

    private static void costs() {
        E.of(18, "HIDDEN: no such RAIN");
        E.asks(CleanerEdgesTest::still, 0, 2, 1, 1, HIDDEN, (x, v) -> x.costs(v, 0, 0));
        E.of(18, "HIDDEN: no such OWNER (one, 0 .. 5)");
        E.asks(CleanerEdgesTest::still, 0, 2, 5, 0, HIDDEN, (x, v) -> x.costs(0, v, 0));
        E.of(18, "HIDDEN: no such OWNER (other, 0 .. 5)");
        E.asks(CleanerEdgesTest::still, 0, 2, 5, 0, HIDDEN, (x, v) -> x.costs(0, 0, v));
        E.refused("NONE is not all", CleanerEdgesTest::still, HIDDEN, x -> x.costs(0, 0, -1));
        E.of(18, "HIDDEN: nothing dug");
        E.refused("costs(0, 0, 0)", Made::told, HIDDEN, x -> x.costs(0, 0, 0));
        E.of(18, "that one's HARM more if all but the first CLEAN, less that if all do");
        E.changesNothing("1 to 0", CleanerEdgesTest::dammed, 1, x -> x.costs(0, 1, 0));
        E.changesNothing("0 to 1", CleanerEdgesTest::dammed, 0, x -> x.costs(0, 0, 1));
        E.changesNothing("0 to 0", CleanerEdgesTest::dammed, 0, x -> x.costs(0, 0, 0));
        E.changesNothing("1 to 0, a dry day", CleanerEdgesTest::dammed, 0, x -> x.costs(1, 1, 0));
        E.of(18, "HARM by its not CLEANING below that by its CLEANING");
        // Owner 1's mud of 27 holds the head's water back: without it the last reach stands at 15, with it at 10.
        DitchOpen x = Made.heldBack("tb30w1f99,tb10w1o1f99,tb0w1o2f12", 3, 1, "2");
        x.shut(2, true);
        E.due("1 to 2", x.costs(0, 1, 2), -1);
        E.due("1 to 1", x.costs(0, 1, 1), 0);
        E.due("0 to 2", x.costs(0, 0, 2), 0);
    }

    // ---- Promise 19

    private static void first() {
        E.of(19, "NONE: no such RAIN");
        E.asks(CleanerEdgesTest::dammed, 0, 1, 1, 0, -1, DitchOpen::first);
        E.of(19, "NONE: nothing dug");
        E.refused("first(0)", Made::told, -1, x -> x.first(0));
        E.of(19, "the OWNER (0 .. the greatest told)");
        for (int owner = 0; owner <= 5; owner++) {
            DitchOpen x = Made.still("cb0w1o" + owner + "f9,cb0w1o" + owner + "f99", "0,0");
            E.due("of " + owner + " alone", x.first(0), owner);
        }
    }

    /** Reeds of one owner keep the head's water: a rain of 5 (0) brings harm 1 if they are cleaned, none if not. */
    private static DitchOpen grown() {
        DitchOpen x = Due.dug("tb50w1f99,tb0w1f7", "y:r=0?99;y:0", null, "5", "5,0");
        x.set(1, 0);
        x.set(2, 1);
        x.day(0);
        x.shut(1, true);
        return Made.kept(x);
    }

    private static void firstTies() {
        E.of(19, "the greatest told, though without CLEANING there is less HARM");
        E.changesNothing("none cleans", CleanerEdgesTest::grown, 0, x -> x.tried(0, 0, -1));
        E.changesNothing("the one cleans", CleanerEdgesTest::grown, 1, x -> x.tried(0, 1, -1));
        E.changesNothing("one behind the greatest", CleanerEdgesTest::grown, 0, x -> x.tried(0, 2, -1));
        E.changesNothing("first", CleanerEdgesTest::grown, 0, x -> x.first(0));
        E.of(19, "of several the lowest");
        E.due("0 and 2 alike", still().first(0), 0);
        E.due("1 and 2 alike", Made.still("cb0w1f12,cb0w1o1f9,cb0w1o2f9", "0").first(0), 1);
        E.due("2 and 1 alike", Made.still("cb0w1o2f9,cb0w1o1f9,cb0w1f12", "0").first(0), 1);
        E.due("2 by one more", Made.still("cb0w1o2f9,cb0w1o1f9,cb0w1o2f9", "0").first(0), 2);
        E.due("all alike", Made.still("cb0w1o5f99,cb0w1o3f99", "0").first(0), 0);
        E.due("all alike, all wet", Made.still("cb20w1o5f9,cb20w1o3f9", "0").first(0), 0);
    }

    // ---- Promise 20

    /** Mud 9 a day in two reaches with fields at 15: three days (0), one (1). */
    private static DitchOpen rising() {
        DitchOpen x = Due.dug("cb0w9f15,cb0w9f15", "y:0", null, "1,1,1", "1");
        x.set(1, 9);
        return Made.kept(x);
    }

    private static void when() {
        E.of(20, "NONE: no such RAIN");
        E.asks(CleanerEdgesTest::rising, 0, 1, 1, 0, -1, (x, v) -> x.when(v, 0));
        E.asks(CleanerEdgesTest::rising, 0, 2, 1, 0, -1, (x, v) -> x.when(v, 1));
        E.of(20, "NONE: no such what");
        E.asks(CleanerEdgesTest::rising, 0, 1, 1, 2, -1, (x, v) -> x.when(0, v));
        E.of(20, "NONE: nothing dug");
        E.refused("when(0, 0)", Made::told, -1, x -> x.when(0, 0));
        E.refused("when(0, 1)", Made::told, -1, x -> x.when(0, 1));
    }

    private static void whenTies() {
        E.of(20, "of several the first");
        DitchOpen x = rising();
        // Ahead of day 0: levels 9, 18, 27; of day 1: 9, 9, 18; of day 2: 9, 18, 9.
        E.due("1 and 2 alike", x.when(0, 0), 1);
        E.due("harm then", x.when(0, 1), 2);
        E.of(20, "the DAY (0 ..) of the RAIN, the first and the last");
        E.due("of one day", x.when(1, 0), 0);
        x = Due.dug("cb0w9f15,cb0w9f15", "y:0", null, "1,1", "0,0,0,1", "1,0,0,0");
        x.set(1, 9);
        E.due("the last of two", x.when(0, 0), 1);
        E.due("harm then", x.when(0, 1), 0);
        E.due("all alike", x.when(1, 0), 0);
        x.day(1);
        // Level 9 as it stands; a rain of 1 on the last day of four brings 18 unless it is cleaned.
        E.due("any of them: the first", x.when(1, 0), 0);
        x.day(1);
        // Level 18: only ahead of day 0 no day is wet.
        E.due("ahead of day 0", x.when(1, 0), 0);
        E.due("none then", x.when(1, 1), 0);
        E.of(20, "a DAY of the RAIN, though without CLEANING there is less HARM");
        E.changesNothing("of one day", CleanerEdgesTest::grown, 0, y -> y.when(0, 0));
        E.changesNothing("of one day, harm", CleanerEdgesTest::grown, 1, y -> y.when(0, 1));
        E.changesNothing("the last of two", CleanerEdgesTest::grown, 1, y -> y.when(1, 0));
        E.changesNothing("the last of two, harm", CleanerEdgesTest::grown, 1, y -> y.when(1, 1));
        E.of(20, "RAINS of 30 DAYS");
        x = Due.dug("cb0w9f99,cb0w9f91", "y:0", null, "1" + ",1".repeat(29));
        x.set(1, 3);
        // Behind the last day mud 90 and water 30 by 9 stand at 93, a day ahead at 90.
        E.due("day", x.when(0, 0), 1);
        E.due("harm", x.when(0, 1), 0);
    }

    // ---- Promise 21

    private static void hasRefused() {
        E.of(21, "HIDDEN: no such RAIN");
        E.asks(CleanerEdgesTest::dammed, 0, -8, 1, 0, HIDDEN, (x, v) -> x.has(v, 8, 0, 0, 0, 0));
        E.of(21, "PRICE 0 .. 99");
        E.asks(CleanerEdgesTest::dammed, 0, 0, 99, -99, HIDDEN, (x, v) -> x.has(0, v, 0, 0, 0, 0));
        E.of(21, "kind 0 .. 2");
        E.asks(CleanerEdgesTest::dammed, 0, -8, 2, -8, HIDDEN, (x, v) -> x.has(0, 8, v, 7, 0, 0));
        E.changesNothing("kind 1", CleanerEdgesTest::dammed, -15, x -> x.has(0, 8, 1, 7, 0, 0));
        for (int kind = 0; kind < 3; kind++) {
            int asked = kind;
            E.of(21, "fine 0 .. 999 (kind " + kind + ")");
            int most = kind == 1 ? -1007 : -8;
            E.asks(CleanerEdgesTest::dammed, 0, -8, 999, most, HIDDEN, (x, v) -> x.has(0, 8, asked, v, 0, 0));
        }
        E.of(21, "HIDDEN: nothing dug");
        E.refused("has", Made::told, HIDDEN, x -> x.has(0, 8, 0, 0, 0, 0));
    }

    private static void hasEnds() {
        E.of(21, "cleaners of OWNERS here alone");
        E.asks(CleanerEdgesTest::dammed, 0, -8, 3, 0, HIDDEN, (x, v) -> x.has(0, 8, 0, 0, v, 0));
        E.asks(CleanerEdgesTest::still, 0, -2, 7, -9, HIDDEN, (x, v) -> x.has(0, 1, 0, 0, v, 0));
        E.of(21, "OWNERS here: 0 .. the greatest told");
        E.asks(CleanerEdgesTest::dammed, 0, 0, 1, -9, HIDDEN, (x, v) -> x.has(0, 8, 0, 0, 2, v));
        E.asks(CleanerEdgesTest::still, 0, -2, 2, -2, HIDDEN, (x, v) -> x.has(0, 1, 0, 0, 0, v));
        for (int greatest = 0; greatest <= 5; greatest++) {
            DitchOpen x = Made.still("cb0w1o" + greatest + "f5,cb0w1o" + greatest + "f99", "0");
            int all = (1 << greatest + 1) - 1;
            E.due("greatest " + greatest, x.has(0, 1, 0, 0, 0, greatest), -1);
            E.due("all of them", x.has(0, 1, 0, 0, all, greatest), -18);
            E.due("one more cleans", x.has(0, 1, 0, 0, all + 1, greatest), HIDDEN);
            E.due("one more is asked", x.has(0, 1, 0, 0, 0, greatest + 1), HIDDEN);
        }
        E.of(21, "MUD of 1, REEDS of 1: who CLEANS them");
        DitchOpen little = Due.dug("cb10w9f10,cb0w9o1f99", "y:0", null, "0");
        little.day(1);
        E.due("mud 1: one has harm", little.has(0, 5, 0, 0, 0, 0), -5);
        E.due("mud 1: it is a spade", little.has(0, 5, 0, 0, 1, 0), -1);
        E.due("mud 1: the other's is not", little.has(0, 5, 0, 0, 2, 0), -5);
        E.due("mud 1: both", little.has(0, 5, 0, 0, 3, 0), -1);
        E.due("mud 1: who cleans is at rest", little.rests(0, 5, 0, 0, 0), 1);
        E.due("mud 1: one set", little.rests(0, 5, 0, 0, -1), 1);
        little = Due.dug("cb10w1f12,cb0w1o1f99", "y:r=0?99;y:0", null, "5");
        little.set(1, 0);
        little.set(2, 1);
        little.day(0);
        E.due("reeds 1: they keep the water", little.has(0, 5, 0, 0, 0, 0), -5);
        E.due("reeds 1: no spade, no harm", little.has(0, 5, 0, 0, 1, 0), 0);
        E.due("reeds 1: one at rest cleans", little.rests(0, 5, 0, 0, 0), 1);
        E.of(21, "less HARM times PRICE, less SPADES if it CLEANS");
        E.changesNothing("it does not", CleanerEdgesTest::still, -2 * 7, x -> x.has(0, 7, 0, 0, 6, 0));
        E.changesNothing("it does", CleanerEdgesTest::still, -9, x -> x.has(0, 7, 0, 0, 1, 0));
        E.changesNothing("PRICE 0 and it does", CleanerEdgesTest::still, -9, x -> x.has(0, 0, 0, 0, 1, 0));
        E.changesNothing("PRICE 0 and it does not", CleanerEdgesTest::still, 0, x -> x.has(0, 0, 0, 0, 0, 0));
    }

    private static void hasWithoutReaches() {
        E.of(21, "a FINE if it does not CLEAN (if it has no REACHES, too)");
        DitchOpen x = Made.still("cb0w1o0f99,cb0w1o2f99", "0");
        for (int fine : new int[] {0, 1, 999}) {
            E.due("fine " + fine + ": none cleans", x.has(0, 1, 1, fine, 0, 1), -fine);
            E.due("fine " + fine + ": others clean", x.has(0, 1, 1, fine, 5, 1), -fine);
            E.due("fine " + fine + ": it cleans", x.has(0, 1, 1, fine, 2, 1), 0);
            E.due("fine " + fine + ": with reaches, cleans", x.has(0, 1, 1, fine, 1, 0), -9);
            E.due("fine " + fine + ": with reaches, does not", x.has(0, 1, 1, fine, 2, 0), -fine);
        }
        E.of(21, "no FINE but in kind 1");
        E.due("kind 0", x.has(0, 1, 0, 999, 0, 1), 0);
        E.due("kind 2", x.has(0, 1, 2, 999, 0, 1), 0);
    }

    private static void hasShare() {
        E.of(21, "a SHARE: all SPADES by how many OWNERS (0 .. the greatest told), cut");
        DitchOpen x = Made.still("cb0w1o0f99,cb0w1o3f99", "0");
        // 9 by 4, 18 by 4.
        for (int owner = 0; owner < 4; owner++) {
            E.due("none cleans: " + owner, x.has(0, 1, 2, 0, 0, owner), 0);
            E.due("who has none cleans: " + owner, x.has(0, 1, 2, 0, 6, owner), 0);
            E.due("one cleans: " + owner, x.has(0, 1, 2, 0, 1, owner), -2);
            E.due("all clean: " + owner, x.has(0, 1, 2, 0, 15, owner), -4);
        }
        x = Made.still("cb0w1o5f99,cb0w1o5f99", "0");
        E.due("18 by 6", x.has(0, 1, 2, 0, 32, 0), -3);
        x = Made.still("cb0w1f99,cb0w1f99", "0");
        E.due("18 by 1", x.has(0, 1, 2, 0, 1, 0), -18);
        x = Due.dug("cb0w1f99o5,cb0w1f99o4", "y:0", null, "0");
        for (int mud = 1; mud <= 12; mud++) {
            x.day(1);
            E.due("mud " + mud + " by 6", x.has(0, 1, 2, 0, 32, 0), -(mud / 6));
        }
    }

    // ---- Promise 22

    private static void restsRefused() {
        E.of(22, "NONE: no such RAIN");
        E.asks(CleanerEdgesTest::dammed, 0, 2, 1, 2, -1, (x, v) -> x.rests(v, 10, 0, 0, -1));
        E.of(22, "NONE: PRICE 0 .. 99");
        E.asks(CleanerEdgesTest::dammed, 0, 2, 99, 2, -1, (x, v) -> x.rests(0, v, 0, 0, -1));
        E.of(22, "NONE: kind 0 .. 2");
        E.asks(CleanerEdgesTest::dammed, 0, 2, 2, 2, -1, (x, v) -> x.rests(0, 10, v, 999, -1));
        E.changesNothing("kind 1", CleanerEdgesTest::dammed, 1, x -> x.rests(0, 10, 1, 999, -1));
        E.of(22, "NONE: fine 0 .. 999");
        E.asks(CleanerEdgesTest::dammed, 0, 2, 999, 1, -1, (x, v) -> x.rests(0, 10, 1, v, -1));
        E.of(22, "how many (i NONE), the i-th by its bits");
        // By a fine of 9 owner 0 cleans, and to owner 1 both are alike.
        E.asks(CleanerEdgesTest::dammed, -1, 2, 1, 3, -1, (x, v) -> x.rests(0, 10, 1, 9, v));
        E.changesNothing("the first", CleanerEdgesTest::dammed, 1, x -> x.rests(0, 10, 1, 9, 0));
        E.of(22, "NONE: nothing dug");
        E.refused("how many", Made::told, -1, x -> x.rests(0, 10, 0, 0, -1));
        E.refused("the first", Made::told, -1, x -> x.rests(0, 10, 0, 0, 0));
    }

    private static void rest(DitchOpen x, String why, int price, int kind, int fine, int... sets) {
        E.due(why + ": how many", x.rests(0, price, kind, fine, -1), sets.length);
        for (int i = 0; i < sets.length; i++) {
            E.due(why + ": " + i, x.rests(0, price, kind, fine, i), sets[i]);
        }
        E.due(why + ": behind the last", x.rests(0, price, kind, fine, sets.length), -1);
    }

    private static void restsAlike() {
        E.of(22, "nobody has more by doing otherwise alone (as much is rest)");
        // Nine of mud cost nine spades: by a fine of 8 less, of 9 as much, of 10 more.
        rest(dammed(), "fine 8", 10, 1, 8, 1);
        rest(dammed(), "fine 9", 10, 1, 9, 1, 3);
        rest(dammed(), "fine 10", 10, 1, 10, 3);
        // Harm of 2 days: a price of 4 is 8, of 5 is 10.
        DitchOpen x = Made.still("cb0w1f5,cb0w1o1f5", "0,0");
        rest(x, "price 4", 4, 0, 0, 0);
        rest(x, "price 5", 5, 0, 0, 3);
        x = Made.still("cb0w1f5,cb0w1o1f5", "0,0,0,0,0,0,0,0,0");
        rest(x, "price 1, nine days: as much", 1, 0, 0, 0, 1, 2, 3);
        E.of(22, "AT REST: none of four sets");
        DitchOpen none = Made.heldBack("tb1w1o0f5,tb0w1o0f1,tb0w1o1f6", 1, 3, "7");
        int[][] has = {{-20, -10}, {-38, -10}, {-20, -9}, {-18, -19}};
        for (int set = 0; set < 4; set++) {
            E.due("what 0 has by " + set, none.has(0, 10, 0, 0, set, 0), has[set][0]);
            E.due("what 1 has by " + set, none.has(0, 10, 0, 0, set, 1), has[set][1]);
        }
        rest(none, "each would go on to another", 10, 0, 0);
        E.of(22, "sets of one OWNER and of six");
        rest(Made.still("cb0w1f5,cb0w1f5", "0"), "one, dear", 99, 0, 0, 1);
        rest(Made.still("cb0w1f5,cb0w1f5", "0"), "one, cheap", 1, 0, 0, 0);
        x = Made.still("cb0w1f5o0,cb0w1f5o1,cb0w1f5o2,cb0w1f5o3,cb0w1f5o4,cb0w1f5o5", "0");
        rest(x, "six, dear", 99, 0, 0, 63);
        rest(x, "six, cheap", 1, 0, 0, 0);
        E.due("six, alike", x.rests(0, 9, 0, 0, -1), 64);
        E.due("six, alike: the last", x.rests(0, 9, 0, 0, 63), 63);
        E.due("six, alike: behind the last", x.rests(0, 9, 0, 0, 64), -1);
    }

    // ---- Promise 23

    private static void bestRefused() {
        E.of(23, "NONE: no such RAIN");
        E.asks(CleanerEdgesTest::dammed, 0, 2, 1, 0, -1, (x, v) -> x.best(v, 99, 0, 0));
        E.of(23, "NONE: PRICE 0 .. 99");
        E.asks(CleanerEdgesTest::dammed, 0, 0, 99, 2, -1, (x, v) -> x.best(0, v, 0, 0));
        E.of(23, "NONE: kind 0 .. 2");
        E.asks(CleanerEdgesTest::dammed, 0, 0, 2, 2, -1, (x, v) -> x.best(0, 9, v, 9));
        E.changesNothing("kind 1", CleanerEdgesTest::dammed, 3, x -> x.best(0, 9, 1, 9));
        E.of(23, "NONE: fine 0 .. 999");
        E.asks(CleanerEdgesTest::dammed, 0, 0, 999, 3, -1, (x, v) -> x.best(0, 1, 1, v));
        E.of(23, "NONE: nothing dug");
        E.refused("best", Made::told, -1, x -> x.best(0, 10, 0, 0));
    }

    private static void bestTies() {
        E.of(23, "of several the lowest bits");
        // One harm of owner 0 by 8, 9, 10 against nine spades of owner 1.
        E.due("8", dammed().best(0, 8, 0, 0), 0);
        E.due("9", dammed().best(0, 9, 0, 0), 0);
        E.due("10", dammed().best(0, 10, 0, 0), 2);
        // Fines of owner 1 by 8, 9, 10 against nine spades; of owner 0 against none.
        E.due("fine 7", dammed().best(0, 1, 1, 7), 1);
        E.due("fine 8: as much", dammed().best(0, 1, 1, 8), 1);
        E.due("fine 9", dammed().best(0, 1, 1, 9), 3);
        E.of(23, "sets of one OWNER and of six");
        E.due("one", Made.still("cb0w1f5,cb0w1f99", "0").best(0, 18, 0, 0), 0);
        E.due("one", Made.still("cb0w1f5,cb0w1f99", "0").best(0, 19, 0, 0), 1);
        DitchOpen x = Made.still("cb0w1f5o0,cb0w1f5o1,cb0w1f5o2,cb0w1f5o3,cb0w1f5o4,cb0w1f5o5", "0");
        E.due("six", x.best(0, 9, 0, 0), 0);
        E.due("six", x.best(0, 10, 0, 0), 63);
    }

    // ---- Promise 24

    private static void staff() {
        E.of(24, "LEVELS 0 .. 999 (NONE: there is none)");
        E.does(Made::dug, -1, 1, 999, 1, 0, (x, v) -> Edge.bit(x.staff(0, v)));
        E.due("level 0", Made.dug().staff(0, 0), true);
        E.of(24, "false: no such ones (reach 0 .. 19)");
        E.does(Made::dug, 0, 1, 19, 1, 0, (x, v) -> Edge.bit(x.staff(v, 5)));
        E.does(Made::dug, 0, 1, 19, 1, 0, (x, v) -> Edge.bit(x.staff(v, -1)));
        E.of(24, "with nothing dug");
        E.does(Made::told, 0, 1, 19, 1, 0, (x, v) -> Edge.bit(x.staff(v, 5)));
        E.of(24, "it is told so, and none again");
        // Empty, levels 0 and 0.
        for (int level : new int[] {0, 1, 998, 999}) {
            DitchOpen x = Due.dug("cb0,cb0", "y:0", null, "0");
            x.staff(0, level);
            E.due("off by " + level, x.off(0, -1), level);
            x.staff(1, level);
            E.due("off by both", x.off(0, -1), 2 * level);
            x.staff(0, -1);
            E.due("off by the last", x.off(0, -1), level);
            x.staff(1, 3);
            E.due("told anew", x.off(0, -1), 3);
        }
    }

    private static void staffsOfNoReach() {
        E.of(24, "those of REACHES that there are not do not count");
        DitchOpen x = Due.dug("cb0,cb0", "y:0", null, "0");
        Due.text(x, 0, "cb0,cb0,cb0");
        x.staff(2, 500);
        x.staff(19, 900);
        E.due("of two", x.off(0, -1), 0);
        E.due("open", x.where(0, 0, true), 1);
        E.due("shut", x.where(0, 0, false), 3);
        x.dig(1, 0, -1, 0);
        E.due("of three", x.off(0, -1), 500);
        E.due("open", x.where(0, 99, true), 0);
        E.due("shut", x.where(0, 99, false), 0);
        x = Due.dug("cb0" + ",cb0".repeat(19), "y:0", null, "0");
        x.staff(19, 900);
        E.due("of twenty", x.off(0, -1), 900);
    }

    // ---- Promises 25 and 26

    /** Behind a rain of 5 (0) levels 10 and 0; the head shut: 15 and 0; the last: 10 and 10. Behind none (1) 10 and 0. */
    private static DitchOpen steep() {
        DitchOpen x = Due.dug("cb10w1,cb0w1", "y:9", null, "5", "0");
        x.set(1, 0);
        x.image();
        Due.feed(x, "c,cb7");
        x.staff(0, 15);
        return x;
    }

    private static void whereRefused() {
        E.of(25, "NONE: no such RAIN");
        E.asks(CleanerEdgesTest::steep, 0, 1, 1, 0, -1, (x, v) -> x.where(v, 0, false));
        E.asks(CleanerEdgesTest::steep, 0, 0, 1, 0, -1, (x, v) -> x.where(v, 0, true));
        E.of(25, "NONE: so much 0 .. 99");
        E.asks(CleanerEdgesTest::steep, 0, 1, 99, 3, -1, (x, v) -> x.where(0, v, false));
        E.asks(CleanerEdgesTest::steep, 0, 0, 99, 1, -1, (x, v) -> x.where(0, v, true));
        E.of(25, "NONE: nothing dug");
        E.refused("shut", Made::told, -1, x -> x.where(0, 0, false));
        E.refused("open", Made::told, -1, x -> x.where(0, 0, true));
    }

    private static void whereBounds() {
        E.of(25, "off by no more than so much");
        E.due("open: off by 5, by 4", steep().where(0, 4, true), 0);
        E.due("open: off by 5, by 5", steep().where(0, 5, true), 1);
        E.due("open: off by 5, by 6", steep().where(0, 6, true), 1);
        E.due("shut: off by 0 and 5, by 4", steep().where(0, 4, false), 1);
        E.due("shut: off by 0 and 5, by 5", steep().where(0, 5, false), 3);
        E.due("shut: off by 0 and 5, by 6", steep().where(0, 6, false), 3);
        DitchOpen x = steep();
        // The level is 10: off by 99 and by 100.
        x.staff(0, 109);
        E.due("by 99", x.where(0, 99, true), 1);
        x.staff(0, 110);
        E.due("by 100", x.where(0, 99, true), 0);
        // Below and above alike.
        x.staff(0, 5);
        E.due("above by 5, by 5", x.where(0, 5, true), 1);
        E.due("above by 5, by 4", x.where(0, 4, true), 0);
        E.of(25, "all STAFFS");
        x = steep();
        x.staff(1, 10);
        // Open 5 and 10 off; the head shut 0 and 10; the last shut 5 and 0.
        E.due("by 4", x.where(0, 4, false), 0);
        E.due("by 5", x.where(0, 5, false), 2);
        E.due("by 9", x.where(0, 9, false), 2);
        E.due("by 10", x.where(0, 10, false), 3);
        E.due("open by 9", x.where(0, 9, true), 0);
        E.due("open by 10", x.where(0, 10, true), 1);
        E.of(25, "STAFFS: none");
        x = steep();
        x.staff(0, -1);
        E.due("shut", x.where(0, 0, false), 3);
        E.due("open", x.where(0, 0, true), 1);
        E.of(25, "REACHES 2 .. 20");
        x = Due.dug("cb0" + ",cb0".repeat(19), "y:0", null, "0");
        E.due("twenty", x.where(0, 0, false), (1 << 20) - 1);
        x.staff(19, 1);
        E.due("twenty, off", x.where(0, 0, false), 0);
        E.of(25, "one of them SHUT, all else as it stands");
        x = steep();
        x.shut(0, true);
        E.due("open is as it stands", x.where(0, 0, true), 1);
        E.due("the head was shut", x.where(0, 0, false), 3);
        E.due("it is still", x.at(0, 8) * 10 + x.at(1, 8), 10);
    }

    private static void off() {
        E.of(26, "NONE: no such RAIN");
        E.asks(CleanerEdgesTest::steep, 0, 5, 1, 5, -1, (x, v) -> x.off(v, -1));
        E.of(26, "with a REACH SHUT (NONE: none more)");
        E.asks(CleanerEdgesTest::steep, -1, 5, 1, 5, -1, (x, v) -> x.off(0, v));
        E.changesNothing("the head", CleanerEdgesTest::steep, 0, x -> x.off(0, 0));
        E.of(26, "NONE: nothing dug");
        E.refused("off(0, 0)", Made::told, -1, x -> x.off(0, 0));
        E.refused("off(0, -1)", Made::told, -1, x -> x.off(0, -1));
        E.of(26, "how much all STAFFS are off together: none, below, above");
        DitchOpen x = steep();
        for (int level = 8; level <= 12; level++) {
            x.staff(0, level);
            E.due("staff " + level + ", level 10", x.off(0, -1), Math.abs(level - 10));
        }
        x.staff(0, 0);
        x.staff(1, 999);
        E.due("10 above and 999 below", x.off(0, -1), 1009);
        x.staff(0, -1);
        x.staff(1, -1);
        E.due("none", x.off(0, -1), 0);
        for (int reach : new int[] {NEAR, FAR}) {
            E.due("no such reach", x.off(0, reach), -1);
        }
    }
}
