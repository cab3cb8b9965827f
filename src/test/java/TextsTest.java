/** Promises 1 to 7 and 43: a new object, the tape, texts and what they tell. */
public final class TextsTest {
    private static final Due D = new Due();

    public static void main(String[] args) {
        constants();
        newObject();
        feed();
        end();
        ditchFaults();
        rainFaults();
        lawFaults();
        text();
        textBehindFaults();
        reach();
        rain();
        count();
        D.finish("TextsTest");
    }

    private static void constants() {
        D.due("NONE", DitchOpen.NONE, -1);
        D.due("HIDDEN", DitchOpen.HIDDEN, -1000000);
    }

    /** Promise 1, and what each call answers while nothing is dug and nothing told. */
    private static void newObject() {
        DitchOpen x = new DitchOpen();
        int[] counts = {0, 0, 0, 0, -1, 0, 1, 0};
        for (int what = 0; what < 8; what++) {
            D.due("count " + what, x.count(what), counts[what]);
        }
        Due.text(x, 0, "c,c");
        Due.text(x, 1, "y:h");
        Due.text(x, 2, "5");
        D.due("day", x.day(5), -1);
        D.due("run", x.run(0), -1);
        D.due("at", x.at(0, 0), -1);
        D.due("owner", x.owner(0, 0), -1);
        D.due("clean", x.clean(0), -1);
        D.due("shut", x.shut(0, true), false);
        D.due("tried", x.tried(0, 0, 0), -1);
        D.due("costs", x.costs(0, 0, 0), -1000000);
        D.due("first", x.first(0), -1);
        D.due("when", x.when(0, 0), -1);
        D.due("has", x.has(0, 1, 0, 0, 0, 0), -1000000);
        D.due("rests", x.rests(0, 1, 0, 0, -1), -1);
        D.due("best", x.best(0, 1, 0, 0), -1);
        D.due("where", x.where(0, 0, false), -1);
        D.due("where open", x.where(0, 0, true), -1);
        D.due("off", x.off(0, -1), -1);
        D.due("sands", x.sands(0, 0, 0), -1);
        D.due("sinks", x.sinks(0, 0, 1, 0), -1);
        D.due("raised", x.raised(0, 0, 0), -1);
        D.due("every", x.every(0, 1, 1, 0), -1);
        D.due("order", x.order(0, false), -1);
        D.due("turn", x.turn(0), -1);
        D.due("whose", x.whose(0, 0, 0), -1000000);
        D.due("work", x.work(0), -1);
        D.due("work of all", x.work(-1), -1);
        D.due("notch", x.notch(1, -1), -1);
        D.due("hit", x.hit(0, 1), -1);
        D.due("longest", x.longest(0), -1);
        D.due("longest how many", x.longest(1), -1);
        D.due("banks", x.banks(0, 0, 0, 0), -1000000);
        D.due("rise", x.rise(0, 0), -1);
        D.due("image", x.image(), -1);
        D.due("back", x.back(), -1);
        for (int what = 0; what < 9; what++) {
            D.due("all " + what, x.all(what), -1);
        }
        // These need nothing dug.
        D.due("falls", x.falls(2, 0, 1, 0, 0, 99) >= 0, true);
        D.due("staff", x.staff(0, 5), true);
        D.due("set", x.set(0, 5), true);
    }

    /** Promise 2. */
    private static void feed() {
        DitchOpen x = new DitchOpen();
        D.due("nothing but zeros", x.feed(0, 0, 0, 0, 0), 0);
        D.due("the highest first", x.feed(0x632c0063, 0, 0, 0, 0), 3);
        D.due("c,c is right", x.fault(0), -1);
        D.due("zeros between numbers", x.feed(0, 0x62, 0, 0x35, 0), 5);
        D.due("c,cb5 is right", x.fault(0), -1);
        x.end(0);
        D.due("a negative number has bytes too", x.feed(-1, 0, 0, 0, 0), 4);
        D.due("byte 255 is a fault", x.fault(0), 0);
        x.end(0);
        for (int i = 1; i <= 9; i++) {
            D.due("twenty more", x.feed(0x63636363, 0x63636363, 0x63636363, 0x63636363, 0x63636363), 20 * i);
        }
        D.due("199", x.feed(0x63636363, 0x63636363, 0x63636363, 0x63636363, 0x63636300), 199);
        D.due("two more are too many", x.feed(0x63630000, 0, 0, 0, 0), -1);
        D.due("none came", x.count(3), 199);
        D.due("the last that goes", x.feed(0, 0, 0, 0, 0x00006300), 200);
        D.due("none goes more", x.feed(0x63, 0, 0, 0, 0), -1);
        D.due("zeros still go", x.feed(0, 0, 0, 0, 0), 200);
        x.end(197);
        D.due("four for three", x.feed(0, 0x63636363, 0, 0, 0), -1);
        x.end(196);
        D.due("four for four", x.feed(0, 0, 0x63636363, 0, 0), 200);
        // Wherever the bytes stand, each counts once.
        for (int shift = 0; shift < 32; shift += 8) {
            for (int at = 0; at < 5; at++) {
                int[] five = new int[5];
                five[at] = 'c' << shift;
                x.end(200);
                D.due("one too many", x.feed(five[0], five[1], five[2], five[3], five[4]), -1);
                x.end(199);
                D.due("one that goes", x.feed(five[0], five[1], five[2], five[3], five[4]), 200);
            }
        }
    }

    /** Promise 3. */
    private static void end() {
        DitchOpen x = new DitchOpen();
        Due.feed(x, "c,cx");
        D.due("-1", x.end(-1), false);
        D.due("more than there are", x.end(5), false);
        D.due("least int", x.end(Integer.MIN_VALUE), false);
        D.due("nothing changed", x.fault(0), 3);
        D.due("all of them", x.end(4), true);
        D.due("all four stand", x.count(3), 4);
        D.due("the first three", x.end(3), true);
        D.due("c,c", x.fault(0), -1);
        D.due("none", x.end(0), true);
        D.due("empty", x.count(3), 0);
    }

    private static void fault(int sort, String text, int due) {
        D.due("fault(" + sort + ") of \"" + text + "\"", Due.fault(new DitchOpen(), sort, text), due);
    }

    /** Promise 4, ditches. */
    private static void ditchFaults() {
        DitchOpen x = new DitchOpen();
        for (int sort : new int[] {-1, 3, Integer.MAX_VALUE, Integer.MIN_VALUE}) {
            D.due("sort " + sort, x.fault(sort), -2);
        }
        fault(0, "", 0);
        fault(0, "  ", 2);
        fault(0, "c", 1);
        fault(0, "c ", 2);
        fault(0, "c,", 2);
        fault(0, ",c", 0);
        fault(0, "c,,c", 2);
        fault(0, "c,x", 2);
        fault(0, "C,c", 0);
        fault(0, "c,cb1w9o5f99", -1);
        fault(0, "c,cf0o0w1b0", -1);
        fault(0, " c b 1 , t o 5 ", -1);
        fault(0, "c,cb", 4);
        fault(0, "c,cb,", 4);
        fault(0, "c,cbw", 4);
        fault(0, "c,cb1 2", 6);
        fault(0, "c,cb00f99", -1);
        // Out of bounds: the last digit, whatever comes behind it.
        fault(0, "c,cw0", 4);
        fault(0, "cw0 ,c", 2);
        fault(0, "cw00,c", 3);
        fault(0, "cw05,c", -1);
        fault(0, "cw10,c", 3);
        fault(0, "co6,c", 2);
        fault(0, "co60,c", 3);
        fault(0, "co05,c", -1);
        fault(0, "co06,c", 3);
        // A third digit itself, though the two ahead of it are out of bounds.
        fault(0, "cw100,c", 4);
        fault(0, "co666,c", 4);
        fault(0, "cb100,c", 4);
        fault(0, "cf000,c", 4);
        fault(0, "cb5b5,c", 3);
        fault(0, "cb5w5b5,c", 5);
        fault(0, "cb5w5o5f5b5,c", 9);
        fault(0, "cb5,cb5", -1);
        fault(0, "cc,c", 1);
        fault(0, "c;c", 1);
        String twenty = "c" + ",c".repeat(19);
        fault(0, twenty, -1);
        fault(0, twenty + " w3 ", -1);
        fault(0, twenty + ",", 39);
        fault(0, twenty + " ,c", 40);
    }

    /** Promise 4, rains. */
    private static void rainFaults() {
        fault(2, "", 0);
        fault(2, " ", 1);
        fault(2, "0", -1);
        fault(2, "99,00, 7 ", -1);
        fault(2, "5,", 2);
        fault(2, ",5", 0);
        fault(2, "5,,5", 2);
        fault(2, "100", 2);
        fault(2, "5 5", 2);
        fault(2, "5-5", 1);
        String thirty = "1" + ",1".repeat(29);
        fault(2, thirty, -1);
        fault(2, thirty + ",", 59);
        fault(2, thirty + "  ,1", 61);
    }

    /** Promise 4, laws. */
    private static void lawFaults() {
        fault(1, "", 0);
        fault(1, "y", 1);
        fault(1, "y:", 2);
        fault(1, "x:5", 0);
        fault(1, "y5", 1);
        fault(1, "y:5", -1);
        fault(1, " y : 5 ; y : d ", -1);
        fault(1, "y:5;", 4);
        fault(1, "y:5,", 3);
        fault(1, "y:9999", -1);
        fault(1, "y:12345", 6);
        fault(1, "y:12 3", 5);
        fault(1, "y:d+h-r*w/m+s-q*n", -1);
        fault(1, "y:y", 2);
        fault(1, "y:-5", 2);
        fault(1, "y:5+", 4);
        fault(1, "y:5+*", 4);
        fault(1, "y:5?", 3);
        fault(1, "y:5&", 3);
        fault(1, "y:d=1", 5);
        fault(1, "y:d=1;", 5);
        fault(1, "y:d=1?", 6);
        fault(1, "y:d=1=", 5);
        fault(1, "y:d<1?5", -1);
        fault(1, "y:d>1|h=2&r<3?5;y:7", -1);
        fault(1, "y:d=1?5?", 7);
        fault(1, "y:(d=1)?5", -1);
        fault(1, "y:(d=1)+5", 7);
        fault(1, "y:(d)", 4);
        fault(1, "y:(d+1)=2?5", 6);
        fault(1, "y:(d=1?", 6);
        fault(1, "y:!d=1?5", -1);
        fault(1, "y:!5", 4);
        fault(1, "y:!5;", 4);
        fault(1, "y:[d+1]*2", -1);
        fault(1, "y:[d=1]", 4);
        fault(1, "y:[d", 4);
        fault(1, "y:[(", 3);
        fault(1, "y:[!", 3);
        fault(1, "y:]", 2);
        fault(1, "y:d)", 3);
        fault(1, "y:[[[[[[d]]]]]]", -1);
        fault(1, "y:[[[[[[[d", 8);
        fault(1, "y:!!!!!!d=1?5", -1);
        fault(1, "y:!!!!!!!d", 8);
        fault(1, "y:!!!!!![d]=1?5", 8);
        fault(1, "y:((((((d=1))))))?5", -1);
        fault(1, "y:(((((((", 8);
        fault(1, "y:!(!(!([", 8);
        // Beside one another they are not within one another.
        fault(1, "y:!!!!!!d=1&!!!!!!d=1?[[[[[[1]]]]]]+[[[[[[1]]]]]]", -1);
        fault(1, "y:!!!d=[[[1]]]?[[[[[[1]]]]]]", -1);
        fault(1, "y:!!!d=[[[[1]]]]?5", 10);
    }

    /** Promise 5. */
    private static void text() {
        DitchOpen x = new DitchOpen();
        Due.feed(x, "c,c");
        D.due("no such sort", x.text(3), -1);
        D.due("no such sort", x.text(-1), -1);
        D.due("no law", x.text(1), -1);
        D.due("no rain", x.text(2), -1);
        D.due("the tape stays", x.count(3), 3);
        D.due("a ditch", x.text(0), 0);
        D.due("the tape is empty", x.count(3), 0);
        D.due("an empty tape is none", x.text(0), -1);
        for (int i = 1; i < 4; i++) {
            Due.feed(x, "c,c");
            D.due("ditch " + i, x.text(0), i);
        }
        Due.feed(x, "t,t");
        D.due("a fifth ditch", x.text(0), -1);
        D.due("it stays on the tape", x.count(3), 3);
        D.due("and has no fault", x.fault(0), -1);
        D.due("the four are as they were", x.reach(3, 0, 0), 0);
        for (int i = 0; i < 6; i++) {
            x.end(0);
            Due.feed(x, "y:5");
            D.due("law " + i, x.text(1), i);
        }
        Due.feed(x, "y:5");
        D.due("a seventh law", x.text(1), -1);
        for (int i = 0; i < 4; i++) {
            x.end(0);
            Due.feed(x, "5");
            D.due("rain " + i, x.text(2), i);
        }
        Due.feed(x, "5");
        D.due("a fifth rain", x.text(2), -1);
        D.due("counts", x.count(0) * 100 + x.count(1) * 10 + x.count(2), 464);
    }

    /** What a fault was asked of leaves nothing behind in the text that is kept next. */
    private static void textBehindFaults() {
        String[] before = {"y:9", "y:9;y:8;y:7;y:6;y:5;y:4", "y:1=1?9+", "y:!!1=1&2=2|3=3?[9"};
        String[] after = {"y:5", "y:1=2?7", "y:1=2?7;y:1=1?5"};
        int[] due = {5, 0, 5};
        for (String b : before) {
            for (int i = 0; i < after.length; i++) {
                DitchOpen x = new DitchOpen();
                Due.text(x, 0, "cb90w9,cb0w9");
                Due.fault(x, 0, "cb1o5f1,cb1o5f1,cb1o5f1,c");
                Due.fault(x, 1, b);
                Due.text(x, 1, after[i]);
                Due.fault(x, 1, b);
                x.dig(0, 0, -1, 0);
                x.day(90);
                D.due(b + ", then " + after[i], x.at(0, 5), due[i]);
                Due.fault(x, 2, "1,2,3,");
                D.due("a rain", Due.text(x, 2, "4"), 0);
                D.due("of one day", x.rain(0, -1) * 10 + x.rain(0, 0), 14);
            }
        }
    }

    /** Promise 6. */
    private static void reach() {
        DitchOpen x = new DitchOpen();
        Due.text(x, 0, "s,tb0w1o5f0,cf99 o3 w9 b99");
        int[][] due = {{1, 50, 4, 0, 80}, {2, 0, 1, 5, 0}, {0, 99, 9, 3, 99}};
        for (int reach = 0; reach < 3; reach++) {
            for (int what = 0; what < 5; what++) {
                D.due("reach " + reach + ", " + what, x.reach(0, reach, what), due[reach][what]);
            }
        }
        D.due("how many", x.reach(0, -1, 0), 3);
        D.dueThrow(x, 0, -1, 1);
        D.dueThrow(x, 0, -1, -1);
        D.dueThrow(x, 0, 3, 0);
        D.dueThrow(x, 0, -2, 0);
        D.dueThrow(x, 0, 0, 5);
        D.dueThrow(x, 0, 0, -1);
        D.dueThrow(x, 1, 0, 0);
        D.dueThrow(x, 1, -1, 0);
        D.dueThrow(x, -1, 0, 0);
        D.dueThrow(x, Integer.MAX_VALUE, Integer.MAX_VALUE, Integer.MAX_VALUE);
        // What a fault left behind is no ditch.
        Due.fault(x, 0, "c,c,c");
        D.dueThrow(x, 1, 0, 0);
    }

    /** Promise 7. */
    private static void rain() {
        DitchOpen x = new DitchOpen();
        Due.text(x, 2, "7");
        Due.text(x, 2, "0, 99,05");
        D.due("one day", x.rain(0, -1), 1);
        D.due("three days", x.rain(1, -1), 3);
        D.due("7", x.rain(0, 0), 7);
        D.due("0", x.rain(1, 0), 0);
        D.due("99", x.rain(1, 1), 99);
        D.due("05", x.rain(1, 2), 5);
        D.due("no such day", x.rain(1, 3), -1);
        D.due("no such day", x.rain(0, 1), -1);
        D.due("no such day", x.rain(1, -2), -1);
        D.due("no such rain", x.rain(2, 0), -1);
        D.due("no such rain", x.rain(2, -1), -1);
        D.due("no such rain", x.rain(-1, -1), -1);
    }

    /** Promise 43. */
    private static void count() {
        DitchOpen x = Due.dug("c,c,c", "y:5", "y:0", "5", "6", "7");
        x.set(0, 99);
        x.set(1, 9);
        x.set(2, 1);
        Due.feed(x, "abcd");
        int[] due = {1, 2, 3, 4, 3, 99, 9, 1};
        for (int what = 0; what < 8; what++) {
            D.due("count " + what, x.count(what), due[what]);
        }
        for (int what : new int[] {-1, 8, Integer.MIN_VALUE, Integer.MAX_VALUE}) {
            D.due("count " + what, x.count(what), -1000000);
        }
    }
}
