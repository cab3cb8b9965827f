import java.util.NoSuchElementException;

/** Drawn runs of calls, the program's answers against those of the Model. */
public final class ModelTest {
    private final Due d = new Due();
    private final Draws draws;
    private final DitchOpen x = new DitchOpen();
    private final Model m = new Model();
    private final int run;
    private final StringBuilder told = new StringBuilder();

    private ModelTest(int run) {
        this.run = run;
        draws = new Draws(1000 + run);
    }

    public static void main(String[] args) {
        int runs = args.length > 0 ? Integer.parseInt(args[0]) : 220;
        int from = args.length > 1 ? Integer.parseInt(args[1]) : 0;
        Due all = new Due();
        for (int run = from; run < from + runs; run++) {
            boolean right = new ModelTest(run).goes();
            all.due("run " + run + " as the Model", right, true);
        }
        all.finish("ModelTest");
    }

    private boolean right = true;

    private void same(String call, long got, long due) {
        if (got != due && right) {
            System.out.println("run " + run + ": " + call + " answered " + got + ", the Model " + due);
            System.out.println(told);
            right = false;
        }
        told.append(call).append(" = ").append(got).append('\n');
    }

    private void same(String call, boolean got, boolean due) {
        same(call, got ? 1 : 0, due ? 1 : 0);
    }

    private void feed(String text) {
        for (int from = 0; from < text.length(); from += 20) {
            int[] f = Due.fives(text.substring(from));
            same("feed \"" + text.substring(from) + "\"", x.feed(f[0], f[1], f[2], f[3], f[4]),
                m.feed(f[0], f[1], f[2], f[3], f[4]));
        }
    }

    private void tell(int sort, String text) {
        same("end(0)", x.end(0), m.end(0));
        feed(text);
        same("text(" + sort + ")", x.text(sort), m.text(sort));
    }

    private boolean goes() {
        int owners = draws.oneIn(4) ? 6 : draws.from(1, 4);
        int most = draws.oneIn(8) ? 20 : draws.oneIn(3) ? 9 : 5;
        int days = owners < 6 && draws.oneIn(5) ? 30 : 6;
        for (int i = draws.from(1, 3); i > 0; i--) {
            tell(0, draws.ditch(draws.from(2, most), owners));
            tell(1, draws.law());
            tell(1, draws.law());
            tell(2, draws.rain(draws.from(1, days)));
        }
        if (!draws.oneIn(10)) {
            int slips = draws.from(-1, 1);
            same("dig(0, 0, " + slips + ", 7)", x.dig(0, 0, slips, 7), m.dig(0, 0, slips, 7));
        }
        for (int calls = 0; calls < 160 && right; calls++) {
            if (draws.oneIn(3)) {
                moves();
            } else {
                asks(draws.below(25));
            }
            if (draws.oneIn(40)) {
                looks();
            }
        }
        looks();
        return right;
    }

    /** Mostly within the bounds, sometimes just outside or far away. */
    private int within(int least, int most) {
        int odd = draws.below(40);
        return odd == 0 ? least - 1 : odd == 1 ? most + 1 : odd == 2 ? Integer.MIN_VALUE : odd == 3 ? Integer.MAX_VALUE
            : draws.from(least, most);
    }

    private int rain() {
        return within(0, Math.max(0, m.count(2) - 1));
    }

    private int reach(int least) {
        return within(least, Math.max(least, m.count(4) - 1));
    }

    private void moves() {
        int a = draws.below(16);
        if (a < 4) {
            int v = draws.oneIn(2) ? within(0, 99) : within(0, 20);
            same("day(" + v + ")", x.day(v), m.day(v));
        } else if (a < 6) {
            int r = rain();
            same("run(" + r + ")", x.run(r), m.run(r));
        } else if (a < 8) {
            int o = within(0, 5);
            same("clean(" + o + ")", x.clean(o), m.clean(o));
        } else if (a < 10) {
            int r = reach(0);
            boolean is = draws.oneIn(3);
            same("shut(" + r + ", " + is + ")", x.shut(r, is), m.shut(r, is));
        } else if (a < 12) {
            int what = within(0, 2);
            int v = what == 0 ? within(0, draws.oneIn(3) ? 99 : 20) : within(0, what == 1 ? 9 : 1);
            same("set(" + what + ", " + v + ")", x.set(what, v), m.set(what, v));
        } else if (a == 12) {
            int r = within(0, 19);
            int level = draws.oneIn(8) ? within(-1, 999) : draws.from(0, 80);
            r = draws.oneIn(2) ? reach(0) : r;
            same("staff(" + r + ", " + level + ")", x.staff(r, level), m.staff(r, level));
        } else if (a == 13) {
            same("image()", x.image(), m.image());
        } else if (a == 14) {
            same("back()", x.back(), m.back());
        } else if (draws.oneIn(2)) {
            int ditch = within(0, m.count(0) - 1);
            int flow = within(0, m.count(1) - 1);
            int slips = within(-1, m.count(1) - 1);
            long seed = draws.whole();
            same("dig(" + ditch + ", " + flow + ", " + slips + ", " + seed + ")", x.dig(ditch, flow, slips, seed),
                m.dig(ditch, flow, slips, seed));
        } else {
            texts();
        }
    }

    private void texts() {
        int sort = within(0, 2);
        feed(draws.text(Math.floorMod(sort, 3)));
        same("fault(" + sort + ")", x.fault(sort), m.fault(sort));
        same("text(" + sort + ")", x.text(sort), m.text(sort));
        int n = draws.oneIn(3) ? within(0, m.count(3)) : 0;
        same("end(" + n + ")", x.end(n), m.end(n));
    }

    private void asks(int a) {
        int r = rain();
        int price = draws.oneIn(3) ? within(0, 99) : draws.from(0, 3);
        int kind = within(0, 2);
        int fine = draws.oneIn(3) ? within(0, 999) : draws.from(0, 12);
        int owner = within(0, 5);
        int other = within(0, 5);
        int set = within(0, draws.oneIn(3) ? 63 : 3);
        int re = reach(0);
        int ditch = within(0, m.count(0) - 1);
        int what = within(0, 1);
        int by = draws.oneIn(2) ? within(0, 99) : draws.from(0, 9);
        boolean is = draws.oneIn(2);
        String g = r + ", " + price + ", " + kind + ", " + fine + ", ";
        switch (a) {
            case 0: o("tried", x.tried(r, set, owner), m.tried(r, set, owner), r, set, owner); break;
            case 1: o("tried", x.tried(r, set, -1), m.tried(r, set, -1), r, set, -1); break;
            case 2: o("costs", x.costs(r, owner, other), m.costs(r, owner, other), r, owner, other); break;
            case 3: o("first", x.first(r), m.first(r), r); break;
            case 4: o("when", x.when(r, what), m.when(r, what), r, what); break;
            case 5: o("has", x.has(r, price, kind, fine, set, owner % 4), m.has(r, price, kind, fine, set, owner % 4),
                r, price, kind, fine, set, owner % 4); break;
            case 6: rests(r, price, kind, fine); break;
            case 7: o("best", x.best(r, price, kind, fine), m.best(r, price, kind, fine), r, price, kind, fine); break;
            case 8: o("where " + is, x.where(r, by, is), m.where(r, by, is), r, by); break;
            case 9: o("off", x.off(r, reOrNone(re)), m.off(r, reOrNone(re)), r, reOrNone(re)); break;
            case 10: falls(r, by); break;
            case 11: int w = within(0, 2); o("sands", x.sands(ditch, r, w), m.sands(ditch, r, w), ditch, r, w); break;
            case 12: int less = within(1, 9);
                o("sinks", x.sinks(ditch, r, less, by), m.sinks(ditch, r, less, by), ditch, r, less, by); break;
            case 13: o("raised", x.raised(ditch, r, owner), m.raised(ditch, r, owner), ditch, r, owner); break;
            case 14: int years = within(1, 12);
                o("every", x.every(r, price, years, what), m.every(r, price, years, what), r, price, years, what); break;
            case 15: o("order " + is, x.order(r, is), m.order(r, is), r); break;
            case 16: o("turn", x.turn(r), m.turn(r), r); break;
            case 17: case 18: int re2 = reach(0);
                o("whose", x.whose(r, re, re2), m.whose(r, re, re2), r, re, re2); break;
            case 19: o("work", x.work(reOrNone(re)), m.work(reOrNone(re)), reOrNone(re)); break;
            case 20: int men = within(1, 6); int i = within(-1, 5);
                o("notch", x.notch(men, i), m.notch(men, i), men, i); break;
            case 21: int many = within(1, 4); o("hit", x.hit(by, many), m.hit(by, many), by, many); break;
            case 22: o("longest", x.longest(what), m.longest(what), what); break;
            case 23: int up = within(0, 30);
                o("banks", x.banks(r, owner, up, is ? owner : other), m.banks(r, owner, up, is ? owner : other), r,
                    owner, up, is ? owner : other); break;
            default: o("rise", x.rise(r, owner), m.rise(r, owner), r, owner); break;
        }
    }

    private static int reOrNone(int re) {
        return re % 5 == 4 ? -1 : re;
    }

    private void o(String name, int got, int due, int... with) {
        same(name + java.util.Arrays.toString(with), got, due);
    }

    private void rests(int r, int price, int kind, int fine) {
        int many = x.rests(r, price, kind, fine, -1);
        o("rests", many, m.rests(r, price, kind, fine, -1), r, price, kind, fine, -1);
        int i = within(0, Math.max(0, many));
        o("rests", x.rests(r, price, kind, fine, i), m.rests(r, price, kind, fine, i), r, price, kind, fine, i);
    }

    private void falls(int r, int by) {
        int n = draws.oneIn(3) ? within(2, 20) : draws.from(2, 6);
        int soil = within(0, 2);
        int w = within(1, 9);
        int law = within(0, m.count(1) - 1);
        o("falls", x.falls(n, soil, w, law, r, by), m.falls(n, soil, w, law, r, by), n, soil, w, law, r, by);
    }

    /** Looks at all there is, and a little beside it. */
    private void looks() {
        for (int what = -1; what < 10; what++) {
            same("all(" + what + ")", x.all(what), m.all(what));
            same("count(" + what + ")", x.count(what), m.count(what));
            for (int reach = -1; reach < 21; reach++) {
                o("at", x.at(reach, what), m.at(reach, what), reach, what);
            }
            for (int owner = -1; owner < 7; owner++) {
                o("owner", x.owner(owner, what), m.owner(owner, what), owner, what);
            }
        }
        for (int rain = -1; rain < 5; rain++) {
            for (int day = -2; day < 32; day++) {
                o("rain", x.rain(rain, day), m.rain(rain, day), rain, day);
            }
        }
        for (int ditch = -1; ditch < 5; ditch++) {
            for (int reach = -2; reach < 21; reach++) {
                for (int what = -1; what < 6; what++) {
                    o("reach", reachOf(ditch, reach, what), reachDue(ditch, reach, what), ditch, reach, what);
                }
            }
        }
    }

    private int reachOf(int ditch, int reach, int what) {
        try {
            return x.reach(ditch, reach, what);
        } catch (NoSuchElementException e) {
            return -777;
        }
    }

    private int reachDue(int ditch, int reach, int what) {
        try {
            return m.reach(ditch, reach, what);
        } catch (NoSuchElementException e) {
            return -777;
        }
    }
}
