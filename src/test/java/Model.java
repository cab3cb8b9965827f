import java.util.ArrayList;
import java.util.Arrays;
import java.util.Collections;
import java.util.HashMap;
import java.util.List;
import java.util.Map;
import java.util.NoSuchElementException;

/**
 * The document told a second time, as plainly and as unlike the program as may be: texts are worked
 * out as they stand, all sets, orders and rows are tried out one by one. The tests hold both together.
 */
final class Model {
    private static final int NONE = -1;
    private static final int HIDDEN = -1000000;

    private String tape = "";
    private final List<int[][]> ditches = new ArrayList<>();
    private final List<String> laws = new ArrayList<>();
    private final List<int[]> rains = new ArrayList<>();
    private int tide = 0;
    private int silt = 1;
    private int summer = 0;
    private final int[] staffs = new int[20];
    private State now = null;
    private State image = null;
    // Within one call of the game alone: HARM more by cleaners, as each set is asked many times.
    private Map<Integer, int[]> harms = null;

    Model() {
        Arrays.fill(staffs, NONE);
    }

    /** A ditch that is dug. */
    private static final class State {
        int n;
        int[][] told;
        String flowLaw;
        String slipLaw;
        long seed;
        long x;
        int days;
        int waterOut;
        int loadOut;
        int cut;
        int[] water;
        int[] mud;
        int[] reeds;
        int[] load;
        int[] flow;
        int[] slips;
        boolean[] wet;
        boolean[] shut;
        int[] harm = new int[6];
        int[] spent = new int[6];
        // The greatest LEVEL above the FIELD that each reach had behind a day.
        int[] over;
        int unsilted = NONE;

        State(int[][] ditch, String flowLaw, String slipLaw, long seed) {
            n = ditch.length;
            told = new int[n][];
            for (int i = 0; i < n; i++) {
                told[i] = ditch[i].clone();
            }
            this.flowLaw = flowLaw;
            this.slipLaw = slipLaw;
            this.seed = seed;
            x = seed;
            water = new int[n];
            mud = new int[n];
            reeds = new int[n];
            load = new int[n];
            flow = new int[n];
            slips = new int[n];
            wet = new boolean[n];
            shut = new boolean[n];
            over = new int[n];
        }

        State copy() {
            State c = new State(told, flowLaw, slipLaw, seed);
            c.x = x;
            c.days = days;
            c.waterOut = waterOut;
            c.loadOut = loadOut;
            c.cut = cut;
            c.water = water.clone();
            c.mud = mud.clone();
            c.reeds = reeds.clone();
            c.load = load.clone();
            c.flow = flow.clone();
            c.slips = slips.clone();
            c.wet = wet.clone();
            c.shut = shut.clone();
            c.harm = harm.clone();
            c.spent = spent.clone();
            return c;
        }

        int level(int i) {
            return told[i][1] + mud[i] + water[i] / told[i][2];
        }

        int clean(int owner) {
            int spades = 0;
            for (int i = 0; i < n; i++) {
                if (told[i][3] == owner) {
                    spades += mud[i];
                    spades += reeds[i] / 10;
                    mud[i] = 0;
                    reeds[i] = 0;
                }
            }
            spent[owner] += spades;
            return spades;
        }

        int cleanAll() {
            int spades = 0;
            for (int o = 0; o < 6; o++) {
                spades += clean(o);
            }
            return spades;
        }

        int sum(int[] row) {
            return Arrays.stream(row).sum();
        }

        int owners() {
            int most = 0;
            for (int[] r : told) {
                most = Math.max(most, r[3]);
            }
            return most + 1;
        }
    }

    private static int within(long v) {
        return (int) Math.max(-1000000L, Math.min(1000000L, v));
    }

    private void day(State s, int rain) {
        for (int i = 0; i < s.n; i++) {
            s.water[i] += rain;
            if (rain > 0 && i != s.unsilted) {
                s.load[i] += silt;
            }
        }
        for (int round = 0; round < 4; round++) {
            round(s, rain);
        }
        if (s.slipLaw != null) {
            for (int i = 0; i < s.n; i++) {
                s.x = s.x * 6364136223846793005L + 1442695040888963407L;
                long drawn = (s.x >>> 33) % 100;
                if (drawn < worth(s.slipLaw, s, i, rain)) {
                    s.mud[i] += 5;
                    s.slips[i]++;
                }
            }
        }
        for (int i = 0; i < s.n; i++) {
            if (summer == 1 && s.reeds[i] < 99) {
                s.reeds[i]++;
            }
            s.wet[i] = s.level(i) > s.told[i][4];
            s.over[i] = Math.max(s.over[i], s.level(i) - s.told[i][4]);
            if (s.wet[i]) {
                s.harm[s.told[i][3]]++;
            }
        }
        s.days++;
    }

    private int above(State s, int i) {
        return s.level(i) - (i == s.n - 1 ? tide : s.level(i + 1));
    }

    private void round(State s, int rain) {
        int[] flow = new int[s.n];
        for (int i = 0; i < s.n; i++) {
            int above = above(s, i);
            if (!s.shut[i] && above > 0) {
                int f = Math.max(0, worth(s.flowLaw, s, i, rain));
                flow[i] = Math.min(f, Math.min(s.water[i], above * s.told[i][2]));
            }
        }
        int[] water = s.water.clone();
        int[] load = new int[s.n];
        for (int i = 0; i < s.n; i++) {
            water[i] -= flow[i];
            if (i + 1 < s.n) {
                water[i + 1] += flow[i];
            } else {
                s.waterOut += flow[i];
            }
            int slow = new int[] {2, 4, 1}[s.told[i][0]];
            int fast = new int[] {12, 6, 20}[s.told[i][0]];
            if (flow[i] < slow) {
                s.mud[i] += s.load[i];
                continue;
            }
            int goes = s.load[i];
            if (flow[i] > fast && s.mud[i] > 0) {
                s.mud[i]--;
                s.cut++;
                goes++;
            }
            if (i + 1 < s.n) {
                load[i + 1] += goes;
            } else {
                s.loadOut += goes;
            }
        }
        s.water = water;
        s.load = load;
        s.flow = flow;
    }

    // ---- laws, worked out from the text

    private int worth(String law, State s, int i, int rain) {
        for (String clause : law.split(";")) {
            String rest = clause.substring(2);
            int test = rest.indexOf('?');
            if (test < 0) {
                return sum(rest, s, i, rain);
            }
            if (condition(rest.substring(0, test), s, i, rain)) {
                return sum(rest.substring(test + 1), s, i, rain);
            }
        }
        return 0;
    }

    /** The last place of one of the signs that stands in no bracket. */
    private static int lastOf(String text, String signs) {
        int within = 0;
        for (int k = text.length() - 1; k >= 0; k--) {
            char c = text.charAt(k);
            if (c == ')' || c == ']') {
                within++;
            } else if (c == '(' || c == '[') {
                within--;
            } else if (within == 0 && signs.indexOf(c) >= 0) {
                return k;
            }
        }
        return -1;
    }

    private boolean condition(String text, State s, int i, int rain) {
        int or = lastOf(text, "|");
        if (or >= 0) {
            return condition(text.substring(0, or), s, i, rain) || condition(text.substring(or + 1), s, i, rain);
        }
        int and = lastOf(text, "&");
        if (and >= 0) {
            return condition(text.substring(0, and), s, i, rain) && condition(text.substring(and + 1), s, i, rain);
        }
        if (text.charAt(0) == '!') {
            return !condition(text.substring(1), s, i, rain);
        }
        if (text.charAt(0) == '(') {
            return condition(text.substring(1, text.length() - 1), s, i, rain);
        }
        int k = lastOf(text, "=<>");
        int one = sum(text.substring(0, k), s, i, rain);
        int other = sum(text.substring(k + 1), s, i, rain);
        return text.charAt(k) == '=' ? one == other : text.charAt(k) == '<' ? one < other : one > other;
    }

    private int sum(String text, State s, int i, int rain) {
        int k = lastOf(text, "+-");
        if (k < 0) {
            k = lastOf(text, "*/");
        }
        if (k < 0) {
            return atom(text, s, i, rain);
        }
        long one = sum(text.substring(0, k), s, i, rain);
        long other = sum(text.substring(k + 1), s, i, rain);
        switch (text.charAt(k)) {
            case '+': return within(one + other);
            case '-': return within(one - other);
            case '*': return within(one * other);
            default: return other == 0 ? 0 : within(one / other);
        }
    }

    private int atom(String text, State s, int i, int rain) {
        char c = text.charAt(0);
        if (c == '[') {
            return sum(text.substring(1, text.length() - 1), s, i, rain);
        }
        switch (c) {
            case 'd': return within(above(s, i));
            case 'h': return within(s.water[i] / s.told[i][2]);
            case 'r': return s.reeds[i];
            case 'w': return s.told[i][2];
            case 'm': return within(s.mud[i]);
            case 's': return s.told[i][0];
            case 'q': return rain;
            case 'n': return s.slips[i];
            default: return Integer.parseInt(text);
        }
    }

    // ---- texts

    private static int[][] ditchOf(String text) {
        String[] reaches = text.replace(" ", "").split(",");
        int[][] told = new int[reaches.length][];
        for (int i = 0; i < reaches.length; i++) {
            told[i] = new int[] {"cst".indexOf(reaches[i].charAt(0)), 50, 4, 0, 80};
            java.util.regex.Matcher m = java.util.regex.Pattern.compile("([bwof])([0-9]+)").matcher(reaches[i]);
            while (m.find()) {
                told[i][1 + "bwof".indexOf(m.group(1))] = Integer.parseInt(m.group(2));
            }
        }
        return told;
    }

    int feed(int a, int b, int c, int d, int e) {
        StringBuilder more = new StringBuilder(tape);
        for (int v : new int[] {a, b, c, d, e}) {
            for (byte x : java.nio.ByteBuffer.allocate(4).putInt(v).array()) {
                if (x != 0) {
                    more.append((char) (x & 255));
                }
            }
        }
        if (more.length() > 200) {
            return NONE;
        }
        tape = more.toString();
        return tape.length();
    }

    boolean end(int n) {
        if (n < 0 || n > tape.length()) {
            return false;
        }
        tape = tape.substring(0, n);
        return true;
    }

    int fault(int sort) {
        return sort < 0 || sort > 2 ? -2 : Grammar.fault(sort, tape);
    }

    int text(int sort) {
        if (fault(sort) != NONE) {
            return NONE;
        }
        int many = count(sort);
        if (many == (sort == 1 ? 6 : 4)) {
            return NONE;
        }
        if (sort == 0) {
            ditches.add(ditchOf(tape));
        } else if (sort == 1) {
            laws.add(tape.replace(" ", ""));
        } else {
            rains.add(Arrays.stream(tape.replace(" ", "").split(",")).mapToInt(Integer::parseInt).toArray());
        }
        tape = "";
        return many;
    }

    int reach(int ditch, int reach, int what) {
        if (ditch < 0 || ditch >= ditches.size()) {
            throw new NoSuchElementException();
        }
        int[][] d = ditches.get(ditch);
        if (reach == NONE && what == 0) {
            return d.length;
        }
        if (reach < 0 || reach >= d.length || what < 0 || what > 4) {
            throw new NoSuchElementException();
        }
        return d[reach][what];
    }

    private int[] rainOf(int rain) {
        return rain >= 0 && rain < rains.size() ? rains.get(rain) : null;
    }

    int rain(int rain, int day) {
        int[] r = rainOf(rain);
        if (r == null || day < NONE || day >= r.length) {
            return NONE;
        }
        return day == NONE ? r.length : r[day];
    }

    int count(int what) {
        int[] all = {ditches.size(), laws.size(), rains.size(), tape.length(), now == null ? NONE : now.n,
            tide, silt, summer};
        return what < 0 || what > 7 ? HIDDEN : all[what];
    }

    // ---- days

    boolean set(int what, int v) {
        if (what < 0 || what > 2 || v < 0 || v > new int[] {99, 9, 1}[what]) {
            return false;
        }
        if (what == 0) {
            tide = v;
        } else if (what == 1) {
            silt = v;
        } else {
            summer = v;
        }
        return true;
    }

    boolean dig(int ditch, int flow, int slips, long seed) {
        if (ditch < 0 || ditch >= ditches.size() || flow < 0 || flow >= laws.size() || slips < NONE
                || slips >= laws.size()) {
            return false;
        }
        now = new State(ditches.get(ditch), laws.get(flow), slips == NONE ? null : laws.get(slips), seed);
        return true;
    }

    int day(int rain) {
        if (now == null || rain < 0 || rain > 99) {
            return NONE;
        }
        day(now, rain);
        return now.days;
    }

    private void run(State s, int[] rain) {
        for (int amount : rain) {
            day(s, amount);
        }
    }

    int run(int rain) {
        if (now == null || rainOf(rain) == null) {
            return NONE;
        }
        run(now, rainOf(rain));
        return now.days;
    }

    private boolean isReach(int reach) {
        return now != null && reach >= 0 && reach < now.n;
    }

    private static boolean isOwner(int owner) {
        return owner >= 0 && owner <= 5;
    }

    int at(int reach, int what) {
        if (!isReach(reach) || what < 0 || what > 8) {
            return NONE;
        }
        int[] all = {now.water[reach], now.level(reach), now.mud[reach], now.reeds[reach], now.load[reach],
            now.flow[reach], now.slips[reach], now.wet[reach] ? 1 : 0, now.shut[reach] ? 1 : 0};
        return all[what];
    }

    int all(int what) {
        if (now == null || what < 0 || what > 8) {
            return NONE;
        }
        int[] all = {now.days, now.sum(now.water), now.sum(now.mud), now.sum(now.load), now.waterOut, now.loadOut,
            now.cut, now.sum(now.harm), now.sum(now.slips)};
        return all[what];
    }

    int owner(int owner, int what) {
        if (now == null || !isOwner(owner) || what < 0 || what > 2) {
            return NONE;
        }
        int many = 0;
        for (int[] r : now.told) {
            many += r[3] == owner ? 1 : 0;
        }
        return what == 0 ? now.harm[owner] : what == 1 ? now.spent[owner] : many;
    }

    int clean(int owner) {
        return now == null || !isOwner(owner) ? NONE : now.clean(owner);
    }

    boolean shut(int reach, boolean is) {
        if (!isReach(reach)) {
            return false;
        }
        now.shut[reach] = is;
        return true;
    }

    // ---- tried apart

    private int[] harmMore(int[] rain, int cleaners) {
        if (harms != null && harms.containsKey(cleaners)) {
            return harms.get(cleaners);
        }
        State s = now.copy();
        for (int o = 0; o < 6; o++) {
            if ((cleaners & 1 << o) != 0) {
                s.clean(o);
            }
        }
        run(s, rain);
        if (harms != null) {
            harms.put(cleaners, less(s));
        }
        return less(s);
    }

    private int[] less(State s) {
        int[] more = new int[6];
        for (int o = 0; o < 6; o++) {
            more[o] = s.harm[o] - now.harm[o];
        }
        return more;
    }

    private int sumLess(State s) {
        return s.sum(less(s));
    }

    int tried(int rain, int cleaners, int owner) {
        if (now == null || rainOf(rain) == null || cleaners < 0 || cleaners > 63 || owner < NONE || owner > 5) {
            return NONE;
        }
        int[] more = harmMore(rainOf(rain), cleaners);
        return owner == NONE ? Arrays.stream(more).sum() : more[owner];
    }

    int costs(int rain, int one, int other) {
        if (now == null || rainOf(rain) == null || !isOwner(one) || !isOwner(other)) {
            return HIDDEN;
        }
        return tried(rain, 63 - (1 << one), other) - tried(rain, 63, other);
    }

    int first(int rain) {
        if (now == null || rainOf(rain) == null) {
            return NONE;
        }
        int best = 0;
        for (int o = now.owners() - 1; o >= 0; o--) {
            if (tried(rain, 1 << o, NONE) <= tried(rain, 1 << best, NONE) || o == now.owners() - 1) {
                best = o;
            }
        }
        return best;
    }

    int when(int rain, int what) {
        if (now == null || rainOf(rain) == null || what < 0 || what > 1) {
            return NONE;
        }
        int[] r = rainOf(rain);
        List<Integer> harms = new ArrayList<>();
        for (int d = 0; d < r.length; d++) {
            State s = now.copy();
            run(s, Arrays.copyOfRange(r, 0, d));
            s.cleanAll();
            run(s, Arrays.copyOfRange(r, d, r.length));
            harms.add(sumLess(s));
        }
        int least = Collections.min(harms);
        return what == 0 ? harms.indexOf(least) : least;
    }

    // ---- game

    private boolean isGame(int rain, int price, int kind, int fine) {
        return now != null && rainOf(rain) != null && price >= 0 && price <= 99 && kind >= 0 && kind <= 2
            && fine >= 0 && fine <= 999;
    }

    int has(int rain, int price, int kind, int fine, int cleaners, int owner) {
        if (!isGame(rain, price, kind, fine) || cleaners < 0 || cleaners >= 1 << now.owners() || owner < 0
                || owner >= now.owners()) {
            return HIDDEN;
        }
        int have = -harmMore(rainOf(rain), cleaners)[owner] * price;
        int all = 0;
        for (int o = 0; o < 6; o++) {
            if ((cleaners & 1 << o) != 0) {
                int spades = now.copy().clean(o);
                all += spades;
                if (o == owner && kind != 2) {
                    have -= spades;
                }
            }
        }
        if (kind == 1 && (cleaners & 1 << owner) == 0) {
            have -= fine;
        }
        return kind == 2 ? have - all / now.owners() : have;
    }

    int rests(int rain, int price, int kind, int fine, int i) {
        if (!isGame(rain, price, kind, fine)) {
            return NONE;
        }
        List<Integer> rests = new ArrayList<>();
        harms = new HashMap<>();
        for (int set = 0; set < 1 << now.owners(); set++) {
            boolean rest = true;
            for (int o = 0; o < now.owners() && rest; o++) {
                rest = has(rain, price, kind, fine, set ^ 1 << o, o) <= has(rain, price, kind, fine, set, o);
            }
            if (rest) {
                rests.add(set);
            }
        }
        harms = null;
        return i == NONE ? rests.size() : i >= 0 && i < rests.size() ? rests.get(i) : NONE;
    }

    int best(int rain, int price, int kind, int fine) {
        if (!isGame(rain, price, kind, fine)) {
            return NONE;
        }
        List<Integer> haves = new ArrayList<>();
        harms = new HashMap<>();
        for (int set = 0; set < 1 << now.owners(); set++) {
            int sum = 0;
            for (int o = 0; o < now.owners(); o++) {
                sum += has(rain, price, kind, fine, set, o);
            }
            haves.add(sum);
        }
        harms = null;
        return haves.indexOf(Collections.max(haves));
    }

    // ---- staffs

    boolean staff(int reach, int level) {
        if (reach < 0 || reach > 19 || level < NONE || level > 999) {
            return false;
        }
        staffs[reach] = level;
        return true;
    }

    private List<Integer> offs(int rain, int reach) {
        State s = now.copy();
        if (reach != NONE) {
            s.shut[reach] = true;
        }
        run(s, rainOf(rain));
        List<Integer> offs = new ArrayList<>();
        offs.add(0);
        for (int i = 0; i < s.n; i++) {
            if (staffs[i] != NONE) {
                offs.add(Math.abs(s.level(i) - staffs[i]));
            }
        }
        return offs;
    }

    int where(int rain, int by, boolean open) {
        if (now == null || rainOf(rain) == null || by < 0 || by > 99) {
            return NONE;
        }
        if (open) {
            return Collections.max(offs(rain, NONE)) <= by ? 1 : 0;
        }
        int bits = 0;
        for (int i = 0; i < now.n; i++) {
            bits += Collections.max(offs(rain, i)) <= by ? 1 << i : 0;
        }
        return bits;
    }

    int off(int rain, int reach) {
        if (now == null || rainOf(rain) == null || reach < NONE || reach >= now.n) {
            return NONE;
        }
        return offs(rain, reach).stream().mapToInt(Integer::intValue).sum();
    }

    // ---- dug anew

    int falls(int reaches, int soil, int width, int flow, int rain, int by) {
        if (reaches < 2 || reaches > 20 || soil < 0 || soil > 2 || width < 1 || width > 9 || flow < 0
                || flow >= laws.size() || rainOf(rain) == null || by < 0 || by > 99) {
            return NONE;
        }
        int bits = 0;
        for (int fall = 0; fall < 10; fall++) {
            int[][] form = new int[reaches][];
            for (int i = 0; i < reaches; i++) {
                form[i] = new int[] {soil, fall * (reaches - 1 - i), width, 0, 99};
            }
            State s = new State(form, laws.get(flow), null, 0);
            run(s, rainOf(rain));
            bits += s.sum(s.mud) <= by && s.cut == 0 ? 1 << fall : 0;
        }
        return bits;
    }

    private State anew(int[][] ditch) {
        return new State(ditch, now.flowLaw, now.slipLaw, now.seed);
    }

    private boolean isAnew(int ditch, int rain) {
        return now != null && ditch >= 0 && ditch < ditches.size() && rainOf(rain) != null;
    }

    int sands(int ditch, int rain, int what) {
        if (!isAnew(ditch, rain) || what < 0 || what > 2) {
            return NONE;
        }
        State s = anew(ditches.get(ditch));
        run(s, rainOf(rain));
        int most = Arrays.stream(s.mud).max().getAsInt();
        int at = 0;
        while (s.mud[at] != most) {
            at++;
        }
        return what == 0 ? at : what == 1 ? most : s.cut;
    }

    int sinks(int ditch, int rain, int by, int bound) {
        if (!isAnew(ditch, rain) || by < 1 || by > 9 || bound < 0 || bound > 999) {
            return NONE;
        }
        State s = anew(ditches.get(ditch));
        for (int year = 1; year <= 30; year++) {
            for (int[] r : s.told) {
                r[1] = Math.max(0, r[1] - by);
                r[4] = Math.max(0, r[4] - by);
            }
            s = anew(s.told);
            run(s, rainOf(rain));
            if (s.sum(s.harm) > bound) {
                return year;
            }
        }
        return NONE;
    }

    /** FIELDS change no WATER: what they lack is what the LEVELS were above them at the most. */
    private static int lacks(State s, int owner) {
        int most = 0;
        for (int i = 0; i < s.n; i++) {
            most = s.told[i][3] == owner ? Math.max(most, s.over[i]) : most;
        }
        return most > 30 ? NONE : most;
    }

    int raised(int ditch, int rain, int owner) {
        if (!isAnew(ditch, rain) || !isOwner(owner)) {
            return NONE;
        }
        State s = anew(ditches.get(ditch));
        run(s, rainOf(rain));
        return lacks(s, owner);
    }

    // ---- years and orders

    int every(int rain, int price, int years, int what) {
        if (now == null || rainOf(rain) == null || price < 0 || price > 99 || years < 1 || years > 12 || what < 0
                || what > 1) {
            return NONE;
        }
        List<Integer> costs = new ArrayList<>();
        for (int k = 1; k <= 6; k++) {
            State s = now.copy();
            int spades = 0;
            int due = 0;
            for (int year = 0; year < years; year++) {
                if (year == due) {
                    spades += s.cleanAll();
                    due += k;
                }
                run(s, rainOf(rain));
            }
            costs.add(sumLess(s) * price + spades);
        }
        int least = Collections.min(costs);
        return what == 0 ? costs.indexOf(least) + 1 : least;
    }

    private int ordered(int rain, List<Integer> order) {
        State s = now.copy();
        int[] r = rainOf(rain);
        for (int d = 0; d < r.length; d++) {
            if (d < order.size()) {
                s.clean(order.get(d));
            }
            day(s, r[d]);
        }
        return sumLess(s);
    }

    int order(int rain, boolean down) {
        if (now == null || rainOf(rain) == null) {
            return NONE;
        }
        List<Integer> order = new ArrayList<>();
        for (int o = 0; o < now.owners(); o++) {
            order.add(o);
        }
        if (down) {
            Collections.reverse(order);
        }
        return ordered(rain, order);
    }

    int turn(int rain) {
        if (now == null || rainOf(rain) == null || now.owners() > 4) {
            return NONE;
        }
        int[] best = {NONE, NONE};
        orders(rain, new ArrayList<>(), best);
        return best[0];
    }

    private void orders(int rain, List<Integer> order, int[] best) {
        if (order.size() == now.owners()) {
            int digits = 0;
            for (int o : order) {
                digits = digits * 10 + o;
            }
            int harm = ordered(rain, order);
            if (best[0] == NONE || harm < best[1] || (harm == best[1] && digits < best[0])) {
                best[0] = digits;
                best[1] = harm;
            }
        }
        for (int o = now.owners() - 1; o >= 0; o--) {
            if (!order.contains(o)) {
                List<Integer> longer = new ArrayList<>(order);
                longer.add(o);
                orders(rain, longer, best);
            }
        }
    }

    // ---- silt, work, fields

    int whose(int rain, int reach, int other) {
        if (rainOf(rain) == null || !isReach(reach) || !isReach(other)) {
            return HIDDEN;
        }
        State with = now.copy();
        run(with, rainOf(rain));
        State without = now.copy();
        without.unsilted = other;
        run(without, rainOf(rain));
        return with.mud[reach] - without.mud[reach];
    }

    int work(int reach) {
        if (now == null || reach < NONE || reach >= now.n) {
            return NONE;
        }
        int sum = 0;
        for (int i = 0; i < now.n; i++) {
            if (reach == NONE || reach == i) {
                sum += (now.mud[i] + now.reeds[i] / 10) * new int[] {3, 1, 2}[now.told[i][0]];
            }
        }
        return sum;
    }

    int notch(int men, int i) {
        if (now == null || men < 1 || men > 6 || men > now.n || i < NONE || i >= men) {
            return NONE;
        }
        int[] best = new int[men + 1];
        best[men] = Integer.MAX_VALUE;
        rows(new int[men], 1, best);
        return i == NONE ? best[men] : best[i];
    }

    /** Tries out all rows, those with short first rows first. */
    private void rows(int[] begins, int row, int[] best) {
        int men = begins.length;
        if (row == men) {
            int most = 0;
            for (int r = 0; r < men; r++) {
                int sum = 0;
                for (int i = begins[r]; i < (r + 1 < men ? begins[r + 1] : now.n); i++) {
                    sum += work(i);
                }
                most = Math.max(most, sum);
            }
            if (most < best[men]) {
                System.arraycopy(begins, 0, best, 0, men);
                best[men] = most;
            }
            return;
        }
        for (int b = begins[row - 1] + 1; b <= now.n - (men - row); b++) {
            begins[row] = b;
            rows(begins, row + 1, best);
        }
    }

    int hit(int bound, int many) {
        if (now == null || bound < 0 || bound > 999 || many < 1 || many > 4 || many > now.n) {
            return NONE;
        }
        long[] sets = new long[2];
        take(0, many, false, bound, sets);
        return (int) (sets[1] * 1000000 / sets[0]);
    }

    private void take(int from, int left, boolean muddy, int bound, long[] sets) {
        if (left == 0) {
            sets[0]++;
            sets[1] += muddy ? 1 : 0;
            return;
        }
        for (int i = from; i < now.n; i++) {
            take(i + 1, left - 1, muddy || now.mud[i] > bound, bound, sets);
        }
    }

    int longest(int what) {
        if (now == null || what < 0 || what > 1) {
            return NONE;
        }
        for (int many = now.n; many > 0; many--) {
            for (int from = 0; from + many <= now.n; from++) {
                boolean wet = true;
                for (int i = from; i < from + many; i++) {
                    wet = wet && now.wet[i];
                }
                if (wet) {
                    return what == 0 ? from : many;
                }
            }
        }
        return what == 0 ? NONE : 0;
    }

    private State banked(int rain, int owner, int up) {
        State s = now.copy();
        for (int[] r : s.told) {
            r[4] += r[3] == owner ? up : 0;
        }
        run(s, rainOf(rain));
        return s;
    }

    int banks(int rain, int owner, int up, int other) {
        if (now == null || rainOf(rain) == null || !isOwner(owner) || up < 0 || up > 30 || !isOwner(other)) {
            return HIDDEN;
        }
        return less(banked(rain, owner, up))[other] - less(banked(rain, owner, 0))[other];
    }

    int rise(int rain, int owner) {
        if (now == null || rainOf(rain) == null || !isOwner(owner)) {
            return NONE;
        }
        return lacks(banked(rain, owner, 0), owner);
    }

    int image() {
        if (now == null) {
            return NONE;
        }
        image = now.copy();
        return image.days;
    }

    int back() {
        if (image == null) {
            return NONE;
        }
        now = image.copy();
        return now.days;
    }
}
