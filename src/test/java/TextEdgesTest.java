/** Boundaries of section 1, of what is told as texts, and of promises 1 to 7 and 43. */
public final class TextEdgesTest {
    private static final Edge E = new Edge();
    private static final int FAR = Integer.MAX_VALUE;
    private static final int NEAR = Integer.MIN_VALUE;

    public static void main(String[] args) {
        newObject();
        calls();
        feedFull();
        feedZeros();
        feedOrder();
        feedTwenty();
        end();
        faultSorts();
        faultsOfReaches();
        faultsOfItems();
        faultsOfNumbersOfDitches();
        faultsOfThirdDigits();
        faultsOfBlanks();
        faultsOfSigns();
        faultsOfRains();
        faultsOfLaws();
        faultsWithin();
        textSorts();
        textFull();
        textFaults();
        reach();
        reachRefused();
        rain();
        count();
        E.finish("TextEdgesTest", 1, 2, 3, 4, 5, 6, 7, 43);
    }

    private static DitchOpen fed(String text) {
        DitchOpen x = Made.dug();
        x.end(0);
        Due.feed(x, text);
        return x;
    }

    private static int feed(DitchOpen x, String text) {
        int[] f = Due.fives(text);
        return x.feed(f[0], f[1], f[2], f[3], f[4]);
    }

    // ---- Promise 1

    private static void newObject() {
        E.of(1, "nothing dug (at first)");
        DitchOpen x = new DitchOpen();
        E.due("all", x.all(0), -1);
        E.due("reaches", x.count(4), -1);
        E.of(1, "no image at first");
        E.due("back", x.back(), -1);
        E.of(1, "no text at first, an empty tape");
        for (int what = 0; what < 4; what++) {
            E.due("count " + what, x.count(what), 0);
        }
        E.of(1, "TIDE: 0 at first");
        E.due("count 5", x.count(5), 0);
        E.of(1, "SILT: 1 at first");
        E.due("count 6", x.count(6), 1);
        E.of(1, "SUMMER: no at first");
        E.due("count 7", x.count(7), 0);
        E.of(1, "STAFFS: none at first");
        x = Due.dug("cb9,cb9", "y:0", null, "99");
        E.due("open by 0", x.where(0, 0, true), 1);
        E.due("off", x.off(0, -1), 0);
        x.staff(0, 9);
        E.due("with one open by 0", x.where(0, 0, true), 0);
    }

    private static void calls() {
        E.of(1, "512 calls");
        DitchOpen x = new DitchOpen();
        int calls = 6;
        feed(x, "cb9w1f99,cb0w1f99");
        x.text(0);
        feed(x, "y:9");
        x.text(1);
        x.dig(0, 0, -1, 0);
        x.shut(0, true);
        for (; calls < 511; calls++) {
            x.day(99);
        }
        E.due("the 512th tells what 505 days brought", x.at(0, 0), 505 * 99);
    }

    // ---- Promise 2

    private static DitchOpen ofLength(int n) {
        return fed(" ".repeat(n - 3) + "c,c");
    }

    private static void feedFull() {
        E.of(2, "NONE: more than 200");
        for (int more = 0; more <= 20; more++) {
            String bytes = "c".repeat(more);
            int one = 201 - more;
            E.due(more + " to 200 in all", feed(ofLength(200 - more), bytes), 200);
            if (more > 0) {
                E.due(more + " to 199 in all", feed(ofLength(199 - more), bytes), 199);
                E.refused(more + " to 201 in all", () -> ofLength(one), -1, x -> feed(x, bytes));
                E.refused(more + " to a full tape", () -> ofLength(200), -1, x -> feed(x, bytes));
            }
        }
        DitchOpen x = ofLength(199);
        feed(x, "xx");
        E.due("of two for one place none came", x.count(3), 199);
        E.due("what was there is right", x.fault(0), -1);
        E.due("one comes", feed(x, " "), 200);
        E.due("200 bytes are a ditch", x.text(0), 2);
    }

    private static void feedZeros() {
        E.of(2, "bytes of 0 are left out");
        E.due("none to none", fed("").feed(0, 0, 0, 0, 0), 0);
        E.due("none to 7", fed("c,c,c,c").feed(0, 0, 0, 0, 0), 7);
        E.due("none to 200", ofLength(200).feed(0, 0, 0, 0, 0), 200);
        for (int place = 0; place < 20; place++) {
            int[] one = new int[5];
            one[place / 4] = 'c' << 24 - place % 4 * 8;
            E.due("one at " + place, fed("c,").feed(one[0], one[1], one[2], one[3], one[4]), 3);
            E.due("one for one place, at " + place, ofLength(199).feed(one[0], one[1], one[2], one[3], one[4]), 200);
            E.refused("one too many, at " + place, () -> ofLength(200), -1,
                x -> x.feed(one[0], one[1], one[2], one[3], one[4]));
            int[] all = {0x63636363, 0x63636363, 0x63636363, 0x63636363, 0x63636363};
            all[place / 4] &= ~(255 << 24 - place % 4 * 8);
            E.due("all but " + place, fed("").feed(all[0], all[1], all[2], all[3], all[4]), 19);
        }
    }

    private static void feedOrder() {
        E.of(2, "of each number the highest first");
        E.due("c,tb", fed("").feed(0x632c7462, 0, 0, 0, 0), 4);
        DitchOpen x = fed("");
        x.feed(0x6362302c, 0x73623939, 0x006f3500, 0x00000066, 0x38000000);
        E.due("cb0,sb99o5f8", x.text(0), 2);
        E.due("bed", x.reach(2, 0, 1), 0);
        E.due("bed", x.reach(2, 1, 1), 99);
        E.due("owner", x.reach(2, 1, 3), 5);
        E.due("field", x.reach(2, 1, 4), 8);
        E.of(2, "bytes of 128 to 255");
        E.due("128 at the highest", fed("").feed(NEAR, 0, 0, 0, 0), 1);
        E.due("127 at the highest", fed("").feed(FAR, 0, 0, 0, 0), 4);
        E.due("four of 255", fed("").feed(-1, 0, 0, 0, 0), 4);
        E.due("four of 128", fed("").feed(0x80808080, 0, 0, 0, 0), 4);
        for (int b = 1; b < 256; b++) {
            E.due(b + " alone", fed("").feed(b, 0, 0, 0, 0), 1);
            E.due(b + " for one place", ofLength(199).feed(0, 0, 0, 0, b << 24), 200);
            E.due(b + " too many", ofLength(200).feed(0, 0, b << 8, 0, 0), -1);
        }
        for (int sort = 0; sort < 3; sort++) {
            x = fed("");
            x.feed(-1, 0, 0, 0, 0);
            E.due("255 stands in no text", x.fault(sort), 0);
        }
    }

    private static void feedTwenty() {
        E.of(2, "twenty bytes");
        for (int many = 0; many <= 20; many++) {
            E.due(many + " bytes", feed(fed(""), "c".repeat(many)), many);
        }
        DitchOpen x = fed("");
        for (int n = 20; n <= 200; n += 20) {
            E.due(n + " in all", feed(x, "c".repeat(20)), n);
        }
        E.due("220", feed(x, "c".repeat(20)), -1);
    }

    // ---- Promise 3

    private static void end() {
        E.of(3, "false: n (of a tape of 4)");
        for (int n : new int[] {NEAR, -2, -1, 5, 6, 201, FAR}) {
            E.refused("end(" + n + ")", () -> fed("c,ct"), 0, x -> Edge.bit(x.end(n)));
        }
        for (int n = 0; n <= 4; n++) {
            DitchOpen x = fed("c,ct");
            E.due("end(" + n + ")", x.end(n), true);
            E.due("has " + n, x.count(3), n);
        }
        E.changesNothing("end(4), all it has", () -> fed("c,ct"), 1, x -> Edge.bit(x.end(4)));
        E.of(3, "false: n (of an empty tape)");
        E.changesNothing("end(0)", () -> fed(""), 1, x -> Edge.bit(x.end(0)));
        E.refused("end(1)", () -> fed(""), 0, x -> Edge.bit(x.end(1)));
        E.refused("end(-1)", () -> fed(""), 0, x -> Edge.bit(x.end(-1)));
        E.of(3, "false: n (of a full tape)");
        E.changesNothing("end(200)", () -> ofLength(200), 1, x -> Edge.bit(x.end(200)));
        E.refused("end(201)", () -> ofLength(200), 0, x -> Edge.bit(x.end(201)));
        E.due("end(199)", ofLength(200).end(199), true);
        E.of(3, "the first n bytes alone");
        DitchOpen x = fed("c,cb5x");
        x.end(5);
        E.due("c,cb5", x.fault(0), -1);
        x.end(4);
        feed(x, "7");
        E.due("c,cb7", x.text(0), 2);
        E.due("bed", x.reach(2, 1, 1), 7);
    }

    // ---- Promise 4

    private static void fault(int sort, String text, int due) {
        E.changesNothing("fault(" + sort + ") of \"" + text + "\"", () -> fed(text), due, x -> x.fault(sort));
    }

    /** Of all sorts and many texts: without a look at what it leaves. */
    private static void quick(int sort, String text, int due) {
        E.due("fault(" + sort + ") of \"" + text + "\"", Due.fault(new DitchOpen(), sort, text), due);
    }

    private static void faultSorts() {
        E.of(4, "-2: no such sort");
        for (int sort : new int[] {NEAR, -2, -1, 3, 4, FAR}) {
            E.refused("fault(" + sort + ")", () -> fed("c,c"), -2, x -> x.fault(sort));
            E.refused("fault(" + sort + ") of an empty tape", () -> fed(""), -2, x -> x.fault(sort));
        }
        E.of(4, "NONE: none");
        fault(0, "c,c", -1);
        fault(1, "y:d", -1);
        fault(2, "5", -1);
        E.of(4, "the length, if it ends too early: empty");
        fault(0, "", 0);
        fault(1, "", 0);
        fault(2, "", 0);
        E.of(4, "the length, if it ends too early: blanks alone");
        fault(0, "   ", 3);
        fault(1, "   ", 3);
        fault(2, "   ", 3);
        E.of(4, "the length of a full tape");
        quick(0, "c" + " ".repeat(199), 200);
        quick(1, "y:" + " ".repeat(198), 200);
        quick(2, "5" + " ".repeat(198) + ",", 200);
        quick(2, "5" + " ".repeat(199), -1);
    }

    private static String reaches(int n) {
        return "c" + ",c".repeat(n - 1);
    }

    private static void faultsOfReaches() {
        E.of(4, "REACHES 2 .. 20: too few");
        fault(0, "c", 1);
        fault(0, "cb5", 3);
        fault(0, "c,", 2);
        fault(0, "c,c", -1);
        E.of(4, "REACHES 2 .. 20: the , ahead of a twenty-first");
        fault(0, reaches(19), -1);
        fault(0, reaches(20), -1);
        fault(0, reaches(21), 39);
        fault(0, reaches(20) + ",", 39);
        fault(0, reaches(19) + ",", 38);
        fault(0, reaches(20) + "b9 ,c", 42);
        fault(0, reaches(20) + " ", -1);
        E.of(4, "a soil, c, s or t");
        for (int sign = 1; sign < 256; sign++) {
            boolean soil = sign == 'c' || sign == 's' || sign == 't';
            quick(0, (char) sign + ",c", soil ? -1 : sign == ' ' ? 1 : 0);
            quick(0, "c," + (char) sign, soil ? -1 : sign == ' ' ? 3 : 2);
        }
    }

    private static void faultsOfItems() {
        E.of(4, "ITEMS none or more");
        fault(0, "c,cb1w2o3f4", -1);
        fault(0, "cb1w2o3f4,c", -1);
        String[] orders = {"bwof", "fowb", "obfw", "b", "w", "o", "f", "bw", "fo"};
        for (String order : orders) {
            quick(0, "c" + String.join("1", order.split("")) + "1,c", -1);
        }
        E.of(4, "ITEMS: each letter once at most in a REACH (a letter that was there at it)");
        for (char letter : "bwof".toCharArray()) {
            String item = letter + "5";
            fault(0, "c" + item + item + ",c", 3);
            fault(0, "c" + item + ",c" + item, -1);
            quick(0, "c" + item + letter, 3);
            quick(0, "c,c" + item + " " + item, 6);
            for (char other : "bwof".toCharArray()) {
                if (other != letter) {
                    quick(0, "c" + item + other + "1" + item + ",c", 5);
                }
            }
        }
        fault(0, "cb5w5o5f5b5,c", 9);
        fault(0, "cb5w5o5f5f5,c", 9);
        E.of(4, "ITEMS: a letter and a number");
        fault(0, "cb,c", 2);
        fault(0, "c,cb", 4);
        fault(0, "cbw1,c", 2);
        fault(0, "cx1,c", 1);
        fault(0, "c1,c", 1);
        fault(0, "cB1,c", 1);
    }

    private static String digits(int v, int digits) {
        String s = String.valueOf(v);
        return "0".repeat(Math.max(0, digits - s.length())) + s;
    }

    private static void faultsOfNumbersOfDitches() {
        char[] letters = {'b', 'w', 'o', 'f'};
        int[] least = {0, 1, 0, 0};
        int[] most = {99, 9, 5, 99};
        String[] names = {"BED 0 .. 99", "WIDTH 1 .. 9", "OWNER 0 .. 5", "FIELD 0 .. 99"};
        for (int i = 0; i < 4; i++) {
            E.of(4, names[i] + ": out of bounds is wrong at its last digit");
            for (int v = 0; v <= 99; v++) {
                boolean right = v >= least[i] && v <= most[i];
                quick(0, "c" + letters[i] + digits(v, 2) + ",c", right ? -1 : 3);
                if (v < 10) {
                    quick(0, "c" + letters[i] + v + ",c", right ? -1 : 2);
                    quick(0, "c,c" + letters[i] + v, right ? -1 : 4);
                    quick(0, "c" + letters[i] + v + " ,c", right ? -1 : 2);
                }
            }
        }
        E.of(4, "an OWNER out of bounds");
        fault(0, "co5,c", -1);
        fault(0, "co6,c", 2);
        fault(0, "co06,c", 3);
        E.of(4, "a WIDTH out of bounds");
        fault(0, "cw0,c", 2);
        fault(0, "cw1,c", -1);
        fault(0, "cw9,c", -1);
        fault(0, "cw10,c", 3);
    }

    private static void faultsOfThirdDigits() {
        E.of(4, "a third digit itself (whatever stands ahead of it)");
        for (char letter : "bwof".toCharArray()) {
            for (int v = 0; v <= 99; v++) {
                quick(0, "c" + letter + digits(v, 2) + "0,c", 4);
            }
            fault(0, "c" + letter + "051,c", 4);
            fault(0, "c" + letter + "999,c", 4);
            fault(0, "c" + letter + "0000", 4);
        }
        for (int v = 0; v <= 99; v++) {
            quick(2, digits(v, 2), -1);
            quick(2, digits(v, 2) + "0", 2);
        }
        fault(2, "100", 2);
        fault(2, "5,000", 4);
        fault(2, "5,00", -1);
    }

    private static void faultsOfBlanks() {
        E.of(4, "blanks between all signs, not within numbers");
        fault(0, " c b 1 2 ,c", 7);
        fault(0, " c b 12 w 1 , t ", -1);
        fault(2, " 1 , 12 ", -1);
        fault(2, "1 2", 2);
        fault(2, "1, 1  2", 6);
        fault(1, " y : [ d + 12 ] * 1234 > 5 & ! ( h = 1 | r < 2 ) ? 7 ; y : 1 ", -1);
        fault(1, "y:1 2", 4);
        fault(1, "y:d+1  2", 7);
        E.of(4, "blanks (32), no other byte");
        for (int sign = 1; sign < 33; sign++) {
            quick(0, "c" + (char) sign + ",c", sign == 32 ? -1 : 1);
            quick(1, "y:" + (char) sign + "d", sign == 32 ? -1 : 2);
            quick(2, "5" + (char) sign, sign == 32 ? -1 : 1);
        }
        quick(0, "c" + (char) 160 + ",c", 1);
    }

    private static void faultsOfSigns() {
        E.of(4, "the first byte at which no such TEXT can go on");
        fault(0, "c,cx,cw0", 3);
        fault(1, "y:d x y", 4);
        fault(2, "5;6", 1);
        fault(0, "y:d", 0);
        fault(1, "c,c", 0);
        fault(2, "c,c", 0);
        fault(0, "5", 0);
        fault(1, "5", 0);
        fault(2, "y:d", 0);
        fault(0, "c,,c", 2);
        fault(0, ",c", 0);
        fault(0, "c;c", 1);
        fault(2, ",5", 0);
        fault(2, "5,,5", 2);
        fault(2, "-5", 0);
    }

    private static String days(int n) {
        return "7" + ",7".repeat(n - 1);
    }

    private static void faultsOfRains() {
        E.of(4, "RAINS 1 .. 30 DAYS: too few");
        fault(2, "7", -1);
        fault(2, "7,", 2);
        E.of(4, "RAINS 1 .. 30 DAYS: the , ahead of a thirty-first");
        fault(2, days(29), -1);
        fault(2, days(30), -1);
        fault(2, days(31), 59);
        fault(2, days(30) + ",", 59);
        fault(2, days(29) + ",", 58);
        fault(2, days(30) + " ,", 60);
        fault(2, days(30) + "7 ,", 61);
        E.of(4, "RAINS: numbers 0 .. 99");
        fault(2, "0,99", -1);
        fault(2, "00,09", -1);
    }

    private static void faultsOfLaws() {
        E.of(4, "CLAUSES with ; between, one at least");
        fault(1, "y:d", -1);
        fault(1, "y:d;", 4);
        fault(1, "y:d;y:h", -1);
        fault(1, ";y:d", 0);
        fault(1, "y:d;;y:h", 4);
        fault(1, "y:d;h", 4);
        E.of(4, "a CLAUSE: y, :, perhaps CONDITION ?, then SUM");
        fault(1, "y", 1);
        fault(1, "y:", 2);
        fault(1, "yd", 1);
        fault(1, "Y:d", 0);
        fault(1, "y:?d", 2);
        fault(1, "y:d?5", 3);
        fault(1, "y:d=1?", 6);
        fault(1, "y:d=1?5", -1);
        fault(1, "y:d=1?5?6", 7);
        fault(1, "y:d=1?h=1", 7);
        E.of(4, "a CLAUSE that goes on with ! or ( has a CONDITION");
        fault(1, "y:!d", 4);
        fault(1, "y:(d)", 4);
        fault(1, "y:!d=1", 6);
        fault(1, "y:(d=1)", 7);
        fault(1, "y:!d=1;", 6);
        fault(1, "y:(d=1)=1", 7);
        fault(1, "y:!d=1?5", -1);
        fault(1, "y:(d=1)?5", -1);
        fault(1, "y:[d]", -1);
        fault(1, "y:[d]=1?5", -1);
        fault(1, "y:[d=1]", 4);
        fault(1, "y:d+(h)", 4);
        E.of(4, "TRUTHS with | between, UNITS with & between");
        fault(1, "y:d=1|h=1&r=1?5", -1);
        fault(1, "y:d=1|?5", 6);
        fault(1, "y:d=1&?5", 6);
        fault(1, "y:d=1||h=1?5", 6);
        fault(1, "y:d|h=1?5", 3);
        fault(1, "y:d=1|h?5", 7);
        fault(1, "y:d=1|5", 7);
        fault(1, "y:d<1=2?5", 5);
        fault(1, "y:d<=1?5", 4);
        E.of(4, "TERMS with + or - between, ATOMS with * or / between");
        fault(1, "y:d+h-r*w/m", -1);
        fault(1, "y:d+", 4);
        fault(1, "y:d*", 4);
        fault(1, "y:-d", 2);
        fault(1, "y:d+-h", 4);
        fault(1, "y:d h", 4);
        fault(1, "y:[]", 3);
        fault(1, "y:[d", 4);
        fault(1, "y:[d)", 4);
        E.of(4, "a letter (d h r w m s q n)");
        for (int sign = 33; sign < 256; sign++) {
            boolean letter = "dhrwmsqn".indexOf(sign) >= 0;
            boolean digit = sign >= '0' && sign <= '9';
            boolean opens = sign == '[' || sign == '(' || sign == '!';
            quick(1, "y:" + (char) sign, letter || digit ? -1 : opens ? 3 : 2);
        }
        E.of(4, "a number of 1 to 4 digits: a fifth digit");
        fault(1, "y:9", -1);
        fault(1, "y:9999", -1);
        fault(1, "y:0000", -1);
        fault(1, "y:10000", 6);
        fault(1, "y:00000", 6);
        fault(1, "y:123456", 6);
        fault(1, "y:d+10000", 8);
        fault(1, "y:1234 5", 7);
    }

    private static void faultsWithin() {
        E.of(4, "at most six of [ within one another");
        within("y:", "[", "d", "]", "");
        E.of(4, "at most six of ( within one another");
        within("y:", "(", "d=1", ")", "?5");
        E.of(4, "at most six of ! within one another");
        within("y:", "!", "d=1", "", "?5");
        E.of(4, "at most six of ( [ ! within one another, mixed");
        fault(1, "y:!(!(!(d=1)))?5", -1);
        fault(1, "y:!(!(!(!d=1)))?5", 8);
        fault(1, "y:!(!(!((d=1))))?5", 8);
        fault(1, "y:!(!(!([d]=1)))?5", 8);
        fault(1, "y:!(!(![d]=1))?5", -1);
        fault(1, "y:!(!(!d=[h]))?5", -1);
        fault(1, "y:!(!(!d=[[h]]))?5", 10);
        fault(1, "y:(((d=[[[h]]])))?5", -1);
        fault(1, "y:(((d=[[[[h]]]])))?5", 10);
        fault(1, "y:!!!!!!d=[1]?5", 10);
        E.of(4, "beside one another is not within one another");
        fault(1, "y:[[[d]]]+[[[h]]]*[[[[[[r]]]]]]", -1);
        fault(1, "y:!!!d=1&!!!!!!h=1|((((((r=1))))))?[[[[[[1]]]]]];y:[[[[[[1]]]]]]", -1);
        fault(1, "y:[[[[[[d]]]]]]=[[[[[[d]]]]]]?5", -1);
        fault(1, "y:[[[[[[d]+[h]]]]]]", -1);
        fault(1, "y:[[[[[[d]+[[h", 12);
    }

    private static void within(String head, String opens, String inner, String closes, String tail) {
        for (int deep = 0; deep <= 8; deep++) {
            String law = head + opens.repeat(deep) + inner + closes.repeat(deep) + tail;
            fault(1, law, deep <= 6 ? -1 : 8);
        }
    }

    // ---- Promise 5

    private static final String[] RIGHT = {"c,c", "y:d", "5"};

    private static void textSorts() {
        E.of(5, "NONE: no such sort");
        for (int sort : new int[] {NEAR, -2, -1, 3, 4, FAR}) {
            E.refused("text(" + sort + ")", () -> fed("c,c"), -1, x -> x.text(sort));
        }
        E.of(5, "the TAPE, empty then");
        for (int sort = 0; sort < 3; sort++) {
            DitchOpen x = new DitchOpen();
            Due.feed(x, RIGHT[sort]);
            E.due("text(" + sort + ")", x.text(sort), 0);
            E.due("the tape", x.count(3), 0);
        }
    }

    private static DitchOpen filled(int sort, int many) {
        DitchOpen x = new DitchOpen();
        Due.text(x, 0, "cb9w2,sb0w1o2");
        Due.text(x, 1, "y:h");
        Due.text(x, 2, "5,7");
        x.dig(0, 0, -1, 3);
        x.day(9);
        while (x.count(sort) < many) {
            Due.text(x, sort, RIGHT[sort]);
        }
        Due.feed(x, RIGHT[sort]);
        return x;
    }

    private static void textFull() {
        String[] names = {"DITCHES, 4 at most", "LAWS, 6 at most", "RAINS, 4 at most"};
        int[] most = {4, 6, 4};
        for (int i = 0; i < 3; i++) {
            int sort = i;
            int full = most[i];
            E.of(5, "NONE: there are so many (" + names[i] + ")");
            for (int many = 1; many < full; many++) {
                E.due(many + " there are", filled(sort, many).text(sort), many);
            }
            E.refused("so many there are", () -> filled(sort, full), -1, x -> x.text(sort));
            DitchOpen x = filled(sort, full);
            x.text(sort);
            E.due("the tape stays", x.count(3), RIGHT[sort].length());
            E.due("and is right", x.fault(sort), -1);
            E.due("no more are kept", x.count(sort), full);
        }
        E.of(5, "so many of one sort leave room for others");
        DitchOpen x = filled(0, 4);
        x.end(0);
        Due.feed(x, "y:d");
        E.due("a law", x.text(1), 1);
    }

    private static void textFaults() {
        E.of(5, "NONE: a FAULT");
        String[][] wrong = {{"", "c", "c,", "cw0,c", "co6,c", "cb100,c", "cb5b5,c", reaches(21), "y:d", "5"},
            {"", "y:", "y:d;", "y:12345", "y:[[[[[[[d]]]]]]]", "y:(d)", "c,c", "5"},
            {"", "5,", "100", days(31), "c,c", "y:d"}};
        for (int i = 0; i < 3; i++) {
            int sort = i;
            for (String text : wrong[i]) {
                E.refused("text(" + sort + ") of \"" + text + "\"", () -> fed(text), -1, x -> x.text(sort));
            }
            E.due("right is taken", fed(RIGHT[sort]).text(sort), sort == 1 ? 3 : 2);
        }
        E.of(5, "if refused it stays");
        DitchOpen x = fed("c,cw");
        E.due("refused", x.text(0), -1);
        E.due("it has four bytes", x.count(3), 4);
        feed(x, "3");
        E.due("and goes on", x.text(0), 2);
        E.due("width", x.reach(2, 1, 2), 3);
    }

    // ---- Promise 6

    private static void reach() {
        E.of(6, "BED 0 .. 99; 50 without");
        told(1, "cb0,cb99,c", 0, 99, 50);
        E.of(6, "WIDTH 1 .. 9; 4 without");
        told(2, "cw1,cw9,c", 1, 9, 4);
        E.of(6, "OWNER 0 .. 5; 0 without");
        told(3, "co0,co5,c", 0, 5, 0);
        E.of(6, "FIELD 0 .. 99; 80 without");
        told(4, "cf0,cf99,c", 0, 99, 80);
        E.of(6, "soil c, s, t");
        told(0, "c,s,t", 0, 1, 2);
        E.of(6, "how many REACHES, 2 .. 20");
        for (int n = 2; n <= 20; n++) {
            DitchOpen x = new DitchOpen();
            Due.text(x, 0, reaches(n));
            E.due("of " + n, x.reach(0, -1, 0), n);
            E.due("the last", x.reach(0, n - 1, 2), 4);
            thrown("behind the last of " + n, x, 0, n, 2);
        }
    }

    private static void told(int what, String ditch, int... due) {
        DitchOpen x = new DitchOpen();
        Due.text(x, 0, ditch);
        for (int i = 0; i < due.length; i++) {
            E.due(ditch + ": " + i, x.reach(0, i, what), due[i]);
        }
    }

    private static boolean throwsAt(DitchOpen x, int ditch, int reach, int what) {
        try {
            x.reach(ditch, reach, what);
        } catch (java.util.NoSuchElementException e) {
            return e.getClass() == java.util.NoSuchElementException.class;
        }
        return false;
    }

    private static void thrown(String why, DitchOpen x, int ditch, int reach, int what) {
        E.due(why + ": reach(" + ditch + ", " + reach + ", " + what + ") throws", throwsAt(x, ditch, reach, what), true);
    }

    /** Of two ditches, of six and of two reaches. */
    private static void notThere(int ditch, int reach, int what) {
        E.refused("reach(" + ditch + ", " + reach + ", " + what + ")", Made::dug, 1,
            x -> Edge.bit(throwsAt(x, ditch, reach, what)));
    }

    private static void reachRefused() {
        E.of(6, "NoSuchElementException: no such DITCH");
        for (int ditch : new int[] {NEAR, -1, 2, 4, FAR}) {
            notThere(ditch, 0, 0);
            notThere(ditch, -1, 0);
        }
        E.changesNothing("reach(0, 5, 0)", Made::dug, 2, x -> x.reach(0, 5, 0));
        E.changesNothing("reach(1, 0, 0)", Made::dug, 2, x -> x.reach(1, 0, 0));
        thrown("with none told", new DitchOpen(), 0, 0, 0);
        thrown("with none told", new DitchOpen(), 0, -1, 0);
        E.of(6, "NoSuchElementException: no such REACH");
        for (int reach : new int[] {NEAR, -2, 2, 19, 20, FAR}) {
            notThere(1, reach, 0);
        }
        notThere(0, 6, 0);
        E.changesNothing("reach(0, 5, 0)", Made::dug, 2, x -> x.reach(0, 5, 0));
        E.changesNothing("reach(1, 1, 0)", Made::dug, 1, x -> x.reach(1, 1, 0));
        E.of(6, "NoSuchElementException: no such what");
        for (int what : new int[] {NEAR, -1, 5, FAR}) {
            notThere(0, 0, what);
        }
        E.changesNothing("reach(0, 0, 4)", Made::dug, 33, x -> x.reach(0, 0, 4));
        E.of(6, "reach NONE, what 0 alone");
        for (int what : new int[] {NEAR, -1, 1, 2, 3, 4, 5, FAR}) {
            notThere(0, -1, what);
        }
        E.changesNothing("reach(0, -1, 0)", Made::dug, 6, x -> x.reach(0, -1, 0));
        E.of(6, "a DITCH on the tape alone is none");
        notThere(2, -1, 0);
    }

    // ---- Promise 7

    private static void rain() {
        E.of(7, "RAINS of 1 .. 30 DAYS");
        for (int n = 1; n <= 30; n++) {
            DitchOpen x = new DitchOpen();
            Due.text(x, 2, days(n));
            E.due("days of " + n, x.rain(0, -1), n);
            E.due("the last", x.rain(0, n - 1), 7);
            E.due("behind the last", x.rain(0, n), -1);
        }
        E.of(7, "numbers 0 .. 99");
        DitchOpen y = new DitchOpen();
        Due.text(y, 2, "0,99,00,09");
        int[] due = {0, 99, 0, 9};
        for (int day = 0; day < 4; day++) {
            E.due("day " + day, y.rain(0, day), due[day]);
        }
        E.of(7, "NONE: no such DAY");
        E.asks(Made::dug, -1, 3, 2, 20, -1, (x, v) -> x.rain(0, v));
        E.changesNothing("the last DAY", Made::dug, 99, x -> x.rain(1, 1));
        E.refused("a DAY of the other RAIN", Made::dug, -1, x -> x.rain(1, 2));
        E.of(7, "NONE: no such RAIN");
        E.asks(Made::dug, 0, 3, 1, 2, -1, (x, v) -> x.rain(v, -1));
        E.asks(Made::dug, 0, 8, 1, 0, -1, (x, v) -> x.rain(v, 0));
        E.refused("with none told", DitchOpen::new, -1, x -> x.rain(0, 0));
        E.refused("with none told", DitchOpen::new, -1, x -> x.rain(0, -1));
    }

    // ---- Promise 43

    private static void count() {
        E.of(43, "HIDDEN for others");
        E.asks(Made::dug, 0, 2, 7, 1, -1000000, DitchOpen::count);
        E.asks(DitchOpen::new, 0, 0, 7, 0, -1000000, DitchOpen::count);
        E.of(43, "REACHES of the DITCH that is dug (NONE)");
        E.due("nothing dug", Made.told().count(4), -1);
        E.due("six", Made.dug().count(4), 6);
        DitchOpen x = Made.dug();
        x.dig(1, 0, -1, 0);
        E.due("two", x.count(4), 2);
        x.back();
        E.due("six again", x.count(4), 6);
        E.of(43, "bytes of the TAPE, 0 .. 200");
        E.due("none", fed("").count(3), 0);
        E.due("200", ofLength(200).count(3), 200);
        E.of(43, "DITCHES, LAWS, RAINS, none and most");
        int[] most = {4, 6, 4};
        for (int sort = 0; sort < 3; sort++) {
            E.due("none", new DitchOpen().count(sort), 0);
            E.due("most", filled(sort, most[sort]).count(sort), most[sort]);
        }
    }
}
