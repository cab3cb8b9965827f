/** Promises 17 to 23 and 31 to 33: who cleans, the game, years and orders. */
public final class CleanersTest {
    private static final Due D = new Due();

    public static void main(String[] args) {
        tried();
        costs();
        first();
        when();
        has();
        rests();
        best();
        every();
        order();
        turn();
        apart();
        D.finish("CleanersTest");
    }

    /** Two dry days (0), one wet one (1). */
    private static DitchOpen still(String ditch) {
        return Made.still(ditch, "0,0", "1");
    }

    /** Promise 17. */
    private static void tried() {
        DitchOpen x = still("cb0w1o0f5,cb0w1o1f12,cb0w1o2f9");
        D.due("harm so far", x.all(7), 2);
        D.due("none cleans", x.tried(0, 0, -1), 4);
        D.due("0 cleans", x.tried(0, 1, -1), 2);
        D.due("1 cleans", x.tried(0, 2, -1), 4);
        D.due("0 and 2 clean", x.tried(0, 5, -1), 0);
        D.due("all six clean", x.tried(0, 63, -1), 0);
        D.due("owners without reaches", x.tried(0, 56, -1), 4);
        D.due("of 0", x.tried(0, 4, 0), 2);
        D.due("of 1", x.tried(0, 0, 1), 0);
        D.due("of 2", x.tried(0, 4, 2), 0);
        D.due("of 5", x.tried(0, 0, 5), 0);
        x = Made.dammed();
        D.due("dammed", x.tried(0, 0, 0), 1);
        D.due("its own cleaning does not help", x.tried(0, 1, 0), 1);
        D.due("the other's does", x.tried(0, 2, 0), 0);
        D.due("a dry day", x.tried(1, 0, -1), 0);
        D.due("no such rain", x.tried(2, 0, 0), -1);
        D.due("no such rain", x.tried(-1, 0, 0), -1);
        D.due("cleaners 64", x.tried(0, 64, 0), -1);
        D.due("cleaners -1", x.tried(0, -1, 0), -1);
        D.due("owner 6", x.tried(0, 0, 6), -1);
        D.due("owner -2", x.tried(0, 0, -2), -1);
    }

    /** Promise 18. */
    private static void costs() {
        DitchOpen x = Made.dammed();
        D.due("1 to 0", x.costs(0, 1, 0), 1);
        D.due("0 to 1", x.costs(0, 0, 1), 0);
        D.due("0 to itself", x.costs(0, 0, 0), 0);
        D.due("1 to itself", x.costs(0, 1, 1), 0);
        D.due("5 to 0", x.costs(0, 5, 0), 0);
        x = still("cb0w1o0f5,cb0w1o1f12,cb0w1o2f9");
        D.due("to itself", x.costs(0, 2, 2), 2);
        for (int wrong : new int[] {-1, 6, Integer.MAX_VALUE}) {
            D.due("one " + wrong, x.costs(0, wrong, 0), -1000000);
            D.due("other " + wrong, x.costs(0, 0, wrong), -1000000);
        }
        D.due("no such rain", x.costs(2, 0, 0), -1000000);
        D.due("no such rain", x.costs(-1, 0, 0), -1000000);
    }

    /** Promise 19. */
    private static void first() {
        D.due("1 ahead of 0", Made.dammed().first(0), 1);
        D.due("all alike", Made.dammed().first(1), 0);
        D.due("0 and 2 alike", still("cb0w1f5,cb0w1o1f12,cb0w1o2f9").first(0), 0);
        D.due("two reaches", still("cb0w1f5,cb0w1o1f12,cb0w1o2f9,cb0w1o2f9").first(0), 2);
        D.due("one without reaches", still("cb0w1o2f12,cb0w1o2f12").first(0), 0);
        D.due("the greatest told", still("cb0w1o5f2,cb0w1o5f12").first(0), 5);
        D.due("no such rain", Made.dammed().first(2), -1);
        D.due("no such rain", Made.dammed().first(-1), -1);
    }

    /** Promise 20. */
    private static void when() {
        // Mud 9 a day: levels 9, 18, 27 without cleaning, fields at 15.
        DitchOpen x = Due.dug("cb0w9f15,cb0w9f15", "y:0", null, "1,1,1", "1,1", "1,1,1,1,1", "0");
        x.set(1, 9);
        D.due("the first of two", x.when(0, 0), 1);
        D.due("harm then", x.when(0, 1), 2);
        D.due("ahead of the last", x.when(1, 0), 1);
        D.due("none then", x.when(1, 1), 0);
        // Cleaned ahead of day 1, 2 or 3 three of five days are wet, in two reaches.
        D.due("of five", x.when(2, 0), 1);
        D.due("harm of five", x.when(2, 1), 6);
        D.due("a dry day", x.when(3, 0) * 10 + x.when(3, 1), 0);
        D.due("no such what", x.when(0, 2), -1);
        D.due("no such what", x.when(0, -1), -1);
        D.due("no such rain", x.when(4, 0), -1);
        D.due("no such rain", x.when(-1, 1), -1);
    }

    /** Promise 21. */
    private static void has() {
        DitchOpen x = Made.dammed();
        D.due("harm times price", x.has(0, 8, 0, 0, 0, 0), -8);
        D.due("price 0", x.has(0, 0, 0, 0, 0, 0), 0);
        D.due("no harm, no spades", x.has(0, 8, 0, 0, 2, 0), 0);
        D.due("spades", x.has(0, 8, 0, 0, 2, 1), -9);
        D.due("no fine in kind 0", x.has(0, 8, 0, 7, 0, 1), 0);
        D.due("fine", x.has(0, 8, 1, 7, 0, 1), -7);
        D.due("fine besides harm", x.has(0, 8, 1, 7, 0, 0), -15);
        D.due("no fine", x.has(0, 8, 1, 7, 2, 1), -9);
        D.due("the other's fine", x.has(0, 8, 1, 7, 2, 0), -7);
        D.due("share of 9 by 2, cut", x.has(0, 8, 2, 7, 2, 0), -4);
        D.due("share of who cleans", x.has(0, 8, 2, 7, 2, 1), -4);
        D.due("no share", x.has(0, 8, 2, 7, 1, 1), 0);
        D.due("harm besides share", x.has(0, 8, 2, 7, 1, 0), -8);
        D.due("all clean", x.has(0, 99, 0, 999, 3, 1), -9);
        int[][] wrong = {{2, 8, 0, 0, 0, 0}, {-1, 8, 0, 0, 0, 0}, {0, 100, 0, 0, 0, 0}, {0, -1, 0, 0, 0, 0},
            {0, 8, 3, 0, 0, 0}, {0, 8, -1, 0, 0, 0}, {0, 8, 0, 1000, 0, 0}, {0, 8, 0, -1, 0, 0},
            {0, 8, 0, 0, 4, 0}, {0, 8, 0, 0, -1, 0}, {0, 8, 0, 0, 0, 2}, {0, 8, 0, 0, 0, -1}};
        for (int[] w : wrong) {
            D.due("has " + java.util.Arrays.toString(w), x.has(w[0], w[1], w[2], w[3], w[4], w[5]), -1000000);
        }
        // Owner 1 has no reaches: it is fined, shares, and is one of three.
        x = still("cb0w1o0f5,cb0w1o2f12");
        D.due("fined without reaches", x.has(0, 1, 1, 7, 0, 1), -7);
        D.due("not fined if it cleans nothing", x.has(0, 1, 1, 7, 2, 1), 0);
        D.due("shares without reaches", x.has(0, 1, 2, 7, 5, 1), -6);
        D.due("shares of one", x.has(0, 1, 2, 7, 4, 1), -3);
        D.due("harm of 0", x.has(0, 3, 0, 0, 0, 0), -6);
        D.due("cleaners of three", x.has(0, 3, 0, 0, 8, 0), -1000000);
    }

    private static void rest(DitchOpen x, int price, int kind, int fine, int... sets) {
        String game = "price " + price + ", kind " + kind + ", fine " + fine;
        D.due(game + ": how many", x.rests(0, price, kind, fine, -1), sets.length);
        for (int i = 0; i < sets.length; i++) {
            D.due(game + ": " + i, x.rests(0, price, kind, fine, i), sets[i]);
        }
        D.due(game + ": no more", x.rests(0, price, kind, fine, sets.length), -1);
    }

    /** Promise 22. */
    private static void rests() {
        DitchOpen x = Made.dammed();
        // Owner 0 has nothing to clean: all the same to it without a fine.
        rest(x, 10, 0, 0, 0, 1);
        rest(x, 10, 1, 8, 1);
        rest(x, 10, 1, 9, 1, 3);
        rest(x, 10, 1, 10, 3);
        rest(x, 10, 2, 0, 0, 1);
        rest(x, 0, 1, 0, 0, 1);
        D.due("i -2", x.rests(0, 10, 0, 0, -2), -1);
        D.due("i far", x.rests(0, 10, 0, 0, Integer.MAX_VALUE), -1);
        D.due("no such rain", x.rests(2, 10, 0, 0, -1), -1);
        D.due("price", x.rests(0, 100, 0, 0, -1), -1);
        D.due("kind", x.rests(0, 10, 3, 0, -1), -1);
        D.due("fine", x.rests(0, 10, 0, 1000, -1), -1);
        // Each has mud 9 and harm 2 of its own: at a price of 5 it cleans, at 4 not.
        x = still("cb0w1f5,cb0w1o1f5,cb0w1o2f5");
        rest(x, 5, 0, 0, 7);
        rest(x, 4, 0, 0, 0);
        // A share of nine by three is 3: less than 2 times 2 of its own harm.
        rest(x, 2, 2, 0, 7);
        rest(x, 1, 2, 0, 0);
        rest(x, 4, 1, 1, 0, 1, 2, 3, 4, 5, 6, 7);
        // A reed alone makes no spades, but by this law it keeps the water.
        DitchOpen y = Due.dug("cb10w1f12,cb0w1o1f2", "y:r=0?99;y:0", null, "5");
        y.set(1, 0);
        y.set(2, 1);
        y.day(0);
        rest(y, 1, 0, 0, 3);
        D.due("best without reeds", y.best(0, 1, 0, 0), 3);
        // Owners 1 to 4 have no reaches: all the same whether they clean.
        D.due("six owners", still("cb0w1f5,cb0w1o5f5").rests(0, 5, 0, 0, -1), 16);
    }

    /** Promise 23. */
    private static void best() {
        DitchOpen x = Made.dammed();
        D.due("harm is cheaper", x.best(0, 8, 0, 0), 0);
        D.due("alike: the lowest", x.best(0, 9, 0, 0), 0);
        D.due("cleaning is cheaper", x.best(0, 10, 0, 0), 2);
        D.due("shares are cut: 8", x.best(0, 8, 2, 0), 0);
        D.due("shares are cut: 9", x.best(0, 9, 2, 0), 2);
        D.due("fines count", x.best(0, 1, 1, 8), 1);
        D.due("fines count", x.best(0, 1, 1, 9), 3);
        D.due("six owners", still("cb0w1f5,cb0w1o5f5").best(0, 5, 0, 0), 33);
        D.due("no such rain", x.best(-1, 10, 0, 0), -1);
        D.due("price", x.best(0, -1, 0, 0), -1);
        D.due("kind", x.best(0, 10, -1, 0), -1);
        D.due("fine", x.best(0, 10, 0, -1), -1);
    }

    private static void every(DitchOpen x, int price, int years, int k, int cost) {
        D.due("price " + price + ", years " + years + ": k", x.every(0, price, years, 0), k);
        D.due("price " + price + ", years " + years + ": cost", x.every(0, price, years, 1), cost);
    }

    /** Promise 31. */
    private static void every() {
        // Mud 9 a year in two reaches, fields at 15. Four years: k 1 costs 54, 2: 36 and 4 harm,
        // 3: 54 and 4 harm, 4 and more: 6 harm.
        DitchOpen x = Due.dug("cb0w9f15,cb0w9f15", "y:0", null, "1");
        x.set(1, 9);
        every(x, 0, 4, 4, 0);
        every(x, 5, 4, 4, 30);
        every(x, 9, 4, 1, 54);
        every(x, 10, 4, 1, 54);
        every(x, 99, 1, 1, 0);
        // Six years: 1: 90; 2: 72 and 6 harm; 3: 54 and 8; 4: 72 and 8; 5: 90 and 8; 6: 0 and 10.
        every(x, 3, 6, 6, 30);
        every(x, 99, 6, 1, 90);
        x.day(1);
        // What is there is cleaned ahead of year 0 by each k.
        every(x, 0, 4, 4, 18);
        D.due("years 12", x.every(0, 99, 12, 0), 1);
        D.due("years 13", x.every(0, 1, 13, 0), -1);
        D.due("years 0", x.every(0, 1, 0, 0), -1);
        D.due("price 100", x.every(0, 100, 1, 0), -1);
        D.due("price -1", x.every(0, -1, 1, 0), -1);
        D.due("no such what", x.every(0, 1, 1, 2), -1);
        D.due("no such what", x.every(0, 1, 1, -1), -1);
        D.due("no such rain", x.every(1, 1, 1, 0), -1);
        // Fields that are above two years' mud and below three.
        x = Due.dug("cb0w9f26,cb0w9f26", "y:0", null, "1");
        x.set(1, 9);
        // Six years: 1: 90; 2: 72; 3: 54 and 4; 6: 8 harm.
        every(x, 99, 6, 2, 72);
        every(x, 4, 6, 6, 32);
    }

    /** Promise 32. */
    private static void order() {
        DitchOpen x = still("cb0w1f5,cb0w1o1f12,cb0w1o2f9,cb0w1f5");
        // Two days: 0 and 1 clean, 2 has no day left; down 2 and 1.
        D.due("up", x.order(0, false), 2);
        D.due("down", x.order(0, true), 4);
        D.due("one day up", x.order(1, false), 1);
        D.due("one day down", x.order(1, true), 2);
        D.due("no such rain", x.order(2, false), -1);
        D.due("no such rain", x.order(-1, true), -1);
        // Days behind the last owner go by without cleaning.
        x = Due.dug("cb0w1f5,cb0w1f5", "y:0", null, "5,5");
        D.due("one owner", x.order(0, false), 4);
    }

    /** Promise 33. */
    private static void turn() {
        DitchOpen x = still("cb0w1f5,cb0w1o1f12,cb0w1o2f9,cb0w1f5");
        D.due("0, 2, then 1", x.turn(0), 21);
        D.due("one day: the least digits", x.turn(1), 12);
        x = still("cb0w1f99,cb0w1o1f12,cb0w1o2f9,cb0w1o3f5,cb0w1o3f5");
        D.due("3, 2, then 0, 1", x.turn(0), 3201);
        x = still("cb0w1f99,cb0w1f12");
        D.due("one owner", x.turn(0), 0);
        x = still("cb0w1f5,cb0w1o1f5" + ",cb0w1f5o1,cb0w1f5o2,cb0w1o2f5,cb0w1o2f5" + ",cb0w1o3f5".repeat(4));
        Due.text(x, 2, "0,0,0,0,0");
        D.due("the last order", x.turn(2), 3210);
        x = still("cb0w1o3f5,cb0w1o2f5,cb0w1o1f5,cb0w1f5");
        D.due("the first order", x.turn(0), 123);
        D.due("no such rain", x.turn(2), -1);
        D.due("no such rain", x.turn(-1), -1);
        D.due("five owners", still("cb0w1o4f9,cb0w1f9").turn(0), -1);
        D.due("four owners", still("cb0w1o3f9,cb0w1f99").turn(0), 3012);
    }

    /** Whatever is tried, the ditch stands as it stood. */
    private static void apart() {
        DitchOpen x = Made.dammed();
        x.tried(0, 3, -1);
        x.costs(0, 0, 1);
        x.first(0);
        x.when(0, 0);
        x.has(0, 9, 0, 0, 3, 0);
        x.rests(0, 9, 0, 0, -1);
        x.best(0, 9, 0, 0);
        x.every(0, 9, 12, 0);
        x.order(0, true);
        x.turn(0);
        D.due("days", x.all(0), 1);
        D.due("water", x.all(1), 2);
        D.due("mud", x.all(2), 9);
        D.due("spent", x.owner(1, 1), 0);
        D.due("dug", x.count(4), 2);
    }
}
