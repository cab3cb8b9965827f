import java.util.NoSuchElementException;

/**
 * A ditch that stays open, as ../shared/DOC.md tells it. The face looks at what is asked and
 * refuses; the classes inside work on what stands. Words in capitals are the document's.
 */
public final class DitchOpen {
    public static final int NONE = -1;
    public static final int HIDDEN = -1000000;

    private static final int DITCH = 0;
    private static final int LAW = 1;
    private static final int RAIN = 2;
    private static final int NO_SUCH_SORT = -2;
    private static final int[] MOST_TEXTS = {4, 6, 4};

    private static final int FEWEST_REACHES = 2;
    private static final int MOST_REACHES = 20;
    private static final int OWNERS = 6;
    private static final int ALL_OWNERS = 63;
    private static final int CLAY = 0;
    private static final int SAND = 1;
    private static final int TURF = 2;
    private static final int MOST_FALL = 9;
    private static final int MOST_YEARS_SINKING = 30;
    private static final int MOST_HIGHER = 30;
    private static final int MOST_IN_TURN = 4;
    private static final int TWO_DIGITS = 99;
    private static final int THREE_DIGITS = 999;

    private final Tape tape = new Tape();
    // One slot more than may be kept: a TEXT is read into the slot behind the last that is kept.
    private final Ditch[] ditches = new Ditch[5];
    private final Law[] laws = new Law[7];
    private final Rain[] rains = new Rain[5];
    private final int[] kept = new int[3];
    private final Weather weather;
    private final Dug stand;
    private final Dug image;
    private final Trials trials;
    private final Game game;
    private final Staffs staffs;
    private final Notches notches = new Notches();

    public DitchOpen() {
        for (int i = 0; i < ditches.length; i++) {
            ditches[i] = new Ditch();
        }
        for (int i = 0; i < laws.length; i++) {
            laws[i] = new Law();
        }
        for (int i = 0; i < rains.length; i++) {
            rains[i] = new Rain();
        }
        Weather ofAll = new Weather();
        Dug asItStands = new Dug(ofAll);
        Dug trial = new Dug(ofAll);
        weather = ofAll;
        stand = asItStands;
        image = new Dug(ofAll);
        trials = new Trials(asItStands, trial);
        game = new Game(asItStands, trial);
        staffs = new Staffs(asItStands, trial);
    }

    // ---- TEXTS

    public int feed(int a, int b, int c, int d, int e) {
        return tape.takeIn(a, b, c, d, e);
    }

    public boolean end(int n) {
        return tape.cutTo(n);
    }

    public int fault(int sort) {
        if (!isSort(sort)) {
            return NO_SUCH_SORT;
        }
        return isRead(sort) ? NONE : tape.place();
    }

    public int text(int sort) {
        if (!isSort(sort) || kept[sort] >= MOST_TEXTS[sort] || !isRead(sort)) {
            return NONE;
        }
        tape.cutTo(0);
        kept[sort]++;
        return kept[sort] - 1;
    }

    /** Reads the TAPE into the slot behind the last of its sort; false: the TAPE's place is its FAULT. */
    private boolean isRead(int sort) {
        tape.rewind();
        if (sort == DITCH) {
            Ditch slot = ditchSlot(keptOf(DITCH));
            return slot != null && slot.readFrom(tape);
        }
        if (sort == LAW) {
            Law slot = lawSlot(keptOf(LAW));
            return slot != null && slot.readFrom(tape);
        }
        Rain slot = rainSlot(keptOf(RAIN));
        return slot != null && slot.readFrom(tape);
    }

    private Ditch ditchSlot(int n) {
        return n >= 0 && n < ditches.length ? ditches[n] : null;
    }

    private Law lawSlot(int n) {
        return n >= 0 && n < laws.length ? laws[n] : null;
    }

    private Rain rainSlot(int n) {
        return n >= 0 && n < rains.length ? rains[n] : null;
    }

    private Ditch findDitch(int n) {
        return n < keptOf(DITCH) ? ditchSlot(n) : null;
    }

    private Law findLaw(int n) {
        return n < keptOf(LAW) ? lawSlot(n) : null;
    }

    private Rain findRain(int n) {
        return n < keptOf(RAIN) ? rainSlot(n) : null;
    }

    /** The RAIN by which what is dug can be asked; null: no such RAIN, or nothing dug. */
    private Rain findRainOnDug(int n) {
        return stand.isDug() ? findRain(n) : null;
    }

    private boolean isSort(int sort) {
        return sort >= 0 && sort < kept.length && sort < MOST_TEXTS.length;
    }

    private int keptOf(int sort) {
        return isSort(sort) ? kept[sort] : 0;
    }

    private static boolean isIn(int value, int least, int most) {
        return value >= least && value <= most;
    }

    private static boolean isOwner(int owner) {
        return isIn(owner, 0, OWNERS - 1);
    }

    public int reach(int ditch, int reach, int what) throws NoSuchElementException {
        Ditch told = findDitch(ditch);
        if (told != null && reach == NONE && what == 0) {
            return told.reaches();
        }
        int answer = told == null ? NONE : told.tells(reach, what);
        if (answer == NONE) {
            throw new NoSuchElementException();
        }
        return answer;
    }

    public int rain(int rain, int day) {
        Rain told = findRain(rain);
        if (told == null) {
            return NONE;
        }
        return day == NONE ? told.days() : told.on(day);
    }

    public int count(int what) {
        if (isSort(what)) {
            return kept[what];
        }
        switch (what) {
            case 3: return tape.length();
            case 4: return stand.isDug() ? stand.reaches() : NONE;
            case 5: return weather.tide;
            case 6: return weather.silt;
            case 7: return weather.summer;
            default: return HIDDEN;
        }
    }

    // ---- DAYS

    public boolean set(int what, int v) {
        return weather.put(what, v);
    }

    public boolean dig(int ditch, int flow, int slips, long seed) {
        Ditch told = findDitch(ditch);
        Law flowLaw = findLaw(flow);
        Law slipLaw = findLaw(slips);
        if (told == null || flowLaw == null || (slipLaw == null && slips != NONE)) {
            return false;
        }
        stand.digTold(told, flowLaw, slipLaw, seed);
        return true;
    }

    public int day(int rain) {
        if (!stand.isDug() || !isIn(rain, 0, TWO_DIGITS)) {
            return NONE;
        }
        stand.goDay(rain);
        return stand.days();
    }

    public int run(int rain) {
        Rain told = findRainOnDug(rain);
        if (told == null) {
            return NONE;
        }
        stand.goDays(told);
        return stand.days();
    }

    public int at(int reach, int what) {
        Reach found = stand.find(reach);
        return found == null ? NONE : found.tells(what);
    }

    public int all(int what) {
        return stand.isDug() ? stand.tells(what) : NONE;
    }

    public int owner(int owner, int what) {
        if (!stand.isDug() || !isOwner(owner)) {
            return NONE;
        }
        switch (what) {
            case 0: return stand.harmOf(owner);
            case 1: return stand.spentOf(owner);
            case 2: return stand.reachesOf(owner);
            default: return NONE;
        }
    }

    public int clean(int owner) {
        return stand.isDug() && isOwner(owner) ? stand.cleanOne(owner) : NONE;
    }

    public boolean shut(int reach, boolean is) {
        Reach found = stand.find(reach);
        if (found == null) {
            return false;
        }
        found.shut = is;
        return true;
    }

    public int longest(int what) {
        return stand.isDug() && isIn(what, 0, 1) ? stand.longestWet(what == 1) : NONE;
    }

    public int image() {
        if (!stand.isDug()) {
            return NONE;
        }
        image.becomes(stand);
        return image.days();
    }

    public int back() {
        if (!image.isDug()) {
            return NONE;
        }
        stand.becomes(image);
        return stand.days();
    }

    // ---- Who CLEANS

    public int tried(int rain, int cleaners, int owner) {
        Rain told = findRainOnDug(rain);
        if (told == null || !isIn(cleaners, 0, ALL_OWNERS) || !(owner == NONE || isOwner(owner))) {
            return NONE;
        }
        return trials.harmMore(told, cleaners, owner);
    }

    public int costs(int rain, int one, int other) {
        Rain told = findRainOnDug(rain);
        if (told == null || !isOwner(one) || !isOwner(other)) {
            return HIDDEN;
        }
        int butOne = ALL_OWNERS & ~(1 << one);
        return trials.harmMore(told, butOne, other) - trials.harmMore(told, ALL_OWNERS, other);
    }

    public int first(int rain) {
        Rain told = findRainOnDug(rain);
        return told == null ? NONE : trials.firstToClean(told);
    }

    public int when(int rain, int what) {
        Rain told = findRainOnDug(rain);
        return told == null || !isIn(what, 0, 1) ? NONE : trials.dayToClean(told, what == 1);
    }

    public int every(int rain, int price, int years, int what) {
        Rain told = findRainOnDug(rain);
        if (told == null || !isIn(price, 0, TWO_DIGITS) || !isIn(years, 1, 12) || !isIn(what, 0, 1)) {
            return NONE;
        }
        return trials.yearsToClean(told, price, years, what == 1);
    }

    public int order(int rain, boolean down) {
        Rain told = findRainOnDug(rain);
        return told == null ? NONE : trials.harmByNumbers(told, down);
    }

    public int turn(int rain) {
        Rain told = findRainOnDug(rain);
        return told == null ? NONE : trials.bestTurns(told);
    }

    // ---- GAME

    private static boolean isGame(int price, int kind, int fine) {
        return isIn(price, 0, TWO_DIGITS) && isIn(kind, 0, 2) && isIn(fine, 0, THREE_DIGITS);
    }

    public int has(int rain, int price, int kind, int fine, int cleaners, int owner) {
        Rain told = findRainOnDug(rain);
        if (told == null || !isGame(price, kind, fine)) {
            return HIDDEN;
        }
        game.begin(price, kind, fine);
        if (!isIn(cleaners, 0, game.sets() - 1) || !isIn(owner, 0, game.owners() - 1)) {
            return HIDDEN;
        }
        game.play(told, cleaners, cleaners + 1);
        return game.haveOf(cleaners, owner);
    }

    public int rests(int rain, int price, int kind, int fine, int i) {
        Rain told = findRainOnDug(rain);
        if (told == null || !isGame(price, kind, fine)) {
            return NONE;
        }
        game.begin(price, kind, fine);
        game.play(told, 0, game.sets());
        return game.atRest(i);
    }

    public int best(int rain, int price, int kind, int fine) {
        Rain told = findRainOnDug(rain);
        if (told == null || !isGame(price, kind, fine)) {
            return NONE;
        }
        game.begin(price, kind, fine);
        game.play(told, 0, game.sets());
        return game.bestTogether();
    }

    // ---- STAFFS

    public boolean staff(int reach, int level) {
        return staffs.put(reach, level);
    }

    public int where(int rain, int by, boolean open) {
        Rain told = findRainOnDug(rain);
        if (told == null || !isIn(by, 0, TWO_DIGITS)) {
            return NONE;
        }
        return open ? staffs.agreeOpen(told, by) : staffs.shutWhere(told, by);
    }

    public int off(int rain, int reach) {
        Rain told = findRainOnDug(rain);
        if (told == null || !(reach == NONE || stand.find(reach) != null)) {
            return NONE;
        }
        return staffs.offTogether(told, reach);
    }

    // ---- Dug anew

    public int falls(int reaches, int soil, int width, int flow, int rain, int by) {
        Law law = findLaw(flow);
        Rain told = findRain(rain);
        if (law == null || told == null || !isIn(by, 0, TWO_DIGITS)) {
            return NONE;
        }
        if (!isIn(reaches, FEWEST_REACHES, MOST_REACHES) || !isIn(soil, CLAY, TURF) || !isIn(width, 1, 9)) {
            return NONE;
        }
        return trials.fallsThatKeep(reaches, soil, width, law, told, by);
    }

    public int sands(int ditch, int rain, int what) {
        Ditch told = findDitch(ditch);
        Rain days = findRainOnDug(rain);
        return told == null || days == null || !isIn(what, 0, 2) ? NONE : trials.sandsOf(told, days, what);
    }

    public int sinks(int ditch, int rain, int by, int bound) {
        Ditch told = findDitch(ditch);
        Rain days = findRainOnDug(rain);
        if (told == null || days == null || !isIn(by, 1, 9) || !isIn(bound, 0, THREE_DIGITS)) {
            return NONE;
        }
        return trials.yearsToSink(told, days, by, bound);
    }

    public int raised(int ditch, int rain, int owner) {
        Ditch told = findDitch(ditch);
        Rain days = findRainOnDug(rain);
        return told == null || days == null || !isOwner(owner) ? NONE : trials.higherAnew(told, days, owner);
    }

    // ---- SILT, WORK and FIELDS

    public int whose(int rain, int reach, int other) {
        Rain told = findRainOnDug(rain);
        if (told == null || stand.find(reach) == null || stand.find(other) == null) {
            return HIDDEN;
        }
        return trials.mudBehind(told, reach, NONE) - trials.mudBehind(told, reach, other);
    }

    public int work(int reach) {
        if (reach == NONE) {
            return stand.isDug() ? stand.wholeWork() : NONE;
        }
        Reach found = stand.find(reach);
        return found == null ? NONE : found.labour();
    }

    public int notch(int men, int i) {
        return notches.tell(stand, men, i);
    }

    public int hit(int bound, int many) {
        if (!isIn(bound, 0, THREE_DIGITS) || !isIn(many, 1, 4) || many > stand.reaches()) {
            return NONE;
        }
        long sets = waysToTake(stand.reaches(), many);
        long without = waysToTake(stand.reaches() - stand.muddierThan(bound), many);
        return sets < 1 ? NONE : (int) ((sets - without) * 1000000 / sets);
    }

    private static long waysToTake(int of, int many) {
        long ways = 1;
        for (int i = 0; i < many; i++) {
            ways = ways * (of - i) / (i + 1);
        }
        return ways;
    }

    public int banks(int rain, int owner, int up, int other) {
        Rain told = findRainOnDug(rain);
        if (told == null || !isOwner(owner) || !isIn(up, 0, MOST_HIGHER) || !isOwner(other)) {
            return HIDDEN;
        }
        return trials.harmWithBanks(told, owner, up, other) - trials.harmWithBanks(told, owner, 0, other);
    }

    public int rise(int rain, int owner) {
        Rain told = findRainOnDug(rain);
        return told == null || !isOwner(owner) ? NONE : trials.higherAsItStands(told, owner);
    }

    // ---- The classes inside

    /** The bytes fed, and the place up to which they are read: where reading stops wrongly is the FAULT. */
    private static final class Tape {
        private static final int BLANK = 32;
        // Stands for the sign behind the last one: no byte of the TAPE is 0.
        private static final int END = 0;

        private final int[] bytes = new int[200];
        private int length;
        private int place;

        int takeIn(int a, int b, int c, int d, int e) {
            int more = bytesIn(a) + bytesIn(b) + bytesIn(c) + bytesIn(d) + bytesIn(e);
            if (length + more > bytes.length) {
                return NONE;
            }
            append(a);
            append(b);
            append(c);
            append(d);
            append(e);
            return length;
        }

        private static int bytesIn(int number) {
            int many = 0;
            for (int shift = 24; shift >= 0; shift -= 8) {
                if ((number >>> shift & 255) != 0) {
                    many++;
                }
            }
            return many;
        }

        private void append(int number) {
            for (int shift = 24; shift >= 0; shift -= 8) {
                int sign = number >>> shift & 255;
                if (sign != 0 && length < bytes.length) {
                    bytes[length] = sign;
                    length++;
                }
            }
        }

        boolean cutTo(int n) {
            if (n < 0 || n > length) {
                return false;
            }
            length = n;
            return true;
        }

        int length() {
            return length;
        }

        int place() {
            return place;
        }

        void rewind() {
            place = 0;
        }

        /** The next sign behind blanks; the place is at it then. */
        int next() {
            while (place < length && place < bytes.length && bytes[place] == BLANK) {
                place++;
            }
            return place < length && place < bytes.length ? bytes[place] : END;
        }

        void step() {
            place++;
        }

        void stepBack() {
            place--;
        }

        boolean isThrough() {
            return next() == END;
        }

        boolean takes(int sign) {
            if (next() != sign) {
                return false;
            }
            place++;
            return true;
        }

        /** A number of at most so many digits; NONE: none here, the place is at what is wrong. */
        int number(int mostDigits) {
            if (!isDigit(next())) {
                return NONE;
            }
            int value = 0;
            int digits = 0;
            while (place < length && place < bytes.length && isDigit(bytes[place])) {
                if (digits == mostDigits) {
                    return NONE;
                }
                value = value * 10 + bytes[place] - '0';
                digits++;
                place++;
            }
            return value;
        }

        static boolean isDigit(int sign) {
            return sign >= '0' && sign <= '9';
        }
    }

    /** A DITCH as told: of each REACH soil, BED, WIDTH, OWNER and FIELD, in this order. */
    private static final class Ditch {
        private static final int SOIL = 0;
        private static final int BED = 1;
        private static final int WIDTH = 2;
        private static final int OWNER = 3;
        private static final int FIELD = 4;
        private static final String SOILS = "cst";
        // The letter of what stands at 1 is the first.
        private static final String ITEMS = "bwof";
        private static final int[] USUAL = {0, 50, 4, 0, 80};
        private static final int[] LEAST = {0, 0, 1, 0, 0};
        private static final int[] MOST = {2, 99, 9, 5, 99};

        private final int[][] told = new int[MOST_REACHES][5];
        private int reaches;

        int reaches() {
            return reaches;
        }

        int tells(int reach, int what) {
            boolean isReach = reach >= 0 && reach < reaches && reach < told.length;
            return isReach && what >= 0 && what < told[reach].length ? told[reach][what] : NONE;
        }

        boolean readFrom(Tape tape) {
            reaches = 0;
            do {
                if (reaches >= told.length || !readReach(tape, told[reaches])) {
                    return false;
                }
                reaches++;
            } while (reaches < MOST_REACHES && tape.takes(','));
            return reaches >= FEWEST_REACHES && tape.isThrough();
        }

        private static boolean readReach(Tape tape, int[] reach) {
            int soil = SOILS.indexOf((char) tape.next());
            if (soil < 0) {
                return false;
            }
            tape.step();
            for (int what = 0; what < reach.length && what < USUAL.length; what++) {
                reach[what] = what == SOIL ? soil : USUAL[what];
            }
            return readItems(tape, reach);
        }

        private static boolean readItems(Tape tape, int[] reach) {
            int had = 0;
            for (int items = 0; items < ITEMS.length(); items++) {
                int what = ITEMS.indexOf((char) tape.next()) + BED;
                if (what < BED) {
                    return true;
                }
                if ((had >> what & 1) == 1) {
                    return false;
                }
                had |= 1 << what;
                tape.step();
                if (!readItem(tape, reach, what)) {
                    return false;
                }
            }
            return true;
        }

        private static boolean readItem(Tape tape, int[] reach, int what) {
            int value = tape.number(2);
            if (value == NONE || what < 0 || what >= reach.length || what >= LEAST.length || what >= MOST.length) {
                return false;
            }
            if (value < LEAST[what] || value > MOST[what]) {
                // Out of bounds is wrong at the last digit, and the place is behind it.
                tape.stepBack();
                return false;
            }
            reach[what] = value;
            return true;
        }
    }

    /** A RAIN as told: so much on each DAY. */
    private static final class Rain {
        private final int[] amounts = new int[30];
        private int days;

        int days() {
            return days;
        }

        int on(int day) {
            return day >= 0 && day < days && day < amounts.length ? amounts[day] : NONE;
        }

        boolean readFrom(Tape tape) {
            days = 0;
            do {
                int amount = tape.number(2);
                if (amount == NONE || days >= amounts.length) {
                    return false;
                }
                amounts[days] = amount;
                days++;
            } while (days < amounts.length && tape.takes(','));
            return tape.isThrough();
        }
    }

    /**
     * A LAW as told, its signs turned so that each stands behind what it works on. A '?' has the
     * place of the ';' that ends its CLAUSE. Each sign kept was at least one byte of the TAPE.
     */
    private static final class Law {
        private static final int NUMBER = '0';
        private static final String LETTERS = "dhrwmsqn";
        private static final int MOST_SIGNS = 200;
        private static final int MOST_WITHIN = 6;
        private static final int MOST_VALUE = 1000000;

        private final int[] signs = new int[MOST_SIGNS];
        private final int[] numbers = new int[MOST_SIGNS];
        private int size;
        // Never more than 18 wait: two of each of six within one another, and six round them.
        private final int[] waiting = new int[40];

        boolean readFrom(Tape tape) {
            size = 0;
            boolean more = true;
            for (int clauses = 0; more && clauses < MOST_SIGNS; clauses++) {
                if (!readClause(tape)) {
                    return false;
                }
                more = tape.takes(';');
            }
            return tape.isThrough();
        }

        private void add(int sign, int number) {
            if (size < signs.length && size < numbers.length) {
                signs[size] = sign;
                numbers[size] = number;
                size++;
            }
        }

        private boolean readClause(Tape tape) {
            if (!tape.takes('y') || !tape.takes(':')) {
                return false;
            }
            boolean begun = tape.next() != '!' && tape.next() != '(';
            if (begun && !readSum(tape, 0)) {
                return false;
            }
            if (!begun || isComparison(tape.next())) {
                if (!readCondition(tape, 0, begun) || !tape.takes('?')) {
                    return false;
                }
                int test = size;
                add('?', 0);
                if (!readSum(tape, 0)) {
                    return false;
                }
                endAt(test);
            }
            add(';', 0);
            return true;
        }

        private void endAt(int test) {
            if (test < numbers.length) {
                numbers[test] = size;
            }
        }

        /** Begun: the first SUM of the first UNIT is read already. */
        private boolean readCondition(Tape tape, int within, boolean begun) {
            if (!readTruth(tape, within, begun)) {
                return false;
            }
            for (int more = 0; more < MOST_SIGNS && tape.takes('|'); more++) {
                if (!readTruth(tape, within, false)) {
                    return false;
                }
                add('|', 0);
            }
            return true;
        }

        private boolean readTruth(Tape tape, int within, boolean begun) {
            if (!readUnit(tape, within, begun)) {
                return false;
            }
            for (int more = 0; more < MOST_SIGNS && tape.takes('&'); more++) {
                if (!readUnit(tape, within, false)) {
                    return false;
                }
                add('&', 0);
            }
            return true;
        }

        private boolean readUnit(Tape tape, int within, boolean begun) {
            int inside = within;
            while (!begun && tape.next() == '!') {
                if (inside >= MOST_WITHIN) {
                    return false;
                }
                tape.step();
                inside++;
            }
            boolean round = !begun && tape.next() == '(';
            boolean read = round ? readRound(tape, inside) : (begun || readSum(tape, inside));
            if (!round && read) {
                int sign = tape.next();
                if (!isComparison(sign)) {
                    return false;
                }
                tape.step();
                read = readSum(tape, inside);
                add(sign, 0);
            }
            for (int nots = within; read && nots < inside; nots++) {
                add('!', 0);
            }
            return read;
        }

        private boolean readRound(Tape tape, int within) {
            if (within >= MOST_WITHIN) {
                return false;
            }
            tape.step();
            return readCondition(tape, within + 1, false) && tape.takes(')');
        }

        private static boolean isComparison(int sign) {
            return sign == '=' || sign == '<' || sign == '>';
        }

        private boolean readSum(Tape tape, int within) {
            boolean read = readTerm(tape, within);
            for (int more = 0; read && more < MOST_SIGNS; more++) {
                int sign = tape.next();
                if (sign != '+' && sign != '-') {
                    return true;
                }
                tape.step();
                read = readTerm(tape, within);
                add(sign, 0);
            }
            return read;
        }

        private boolean readTerm(Tape tape, int within) {
            boolean read = readAtom(tape, within);
            for (int more = 0; read && more < MOST_SIGNS; more++) {
                int sign = tape.next();
                if (sign != '*' && sign != '/') {
                    return true;
                }
                tape.step();
                read = readAtom(tape, within);
                add(sign, 0);
            }
            return read;
        }

        private boolean readAtom(Tape tape, int within) {
            int sign = tape.next();
            if (sign == '[') {
                if (within >= MOST_WITHIN) {
                    return false;
                }
                tape.step();
                return readSum(tape, within + 1) && tape.takes(']');
            }
            if (LETTERS.indexOf((char) sign) >= 0) {
                tape.step();
                add(sign, 0);
                return true;
            }
            int number = tape.number(4);
            if (number == NONE) {
                return false;
            }
            add(NUMBER, number);
            return true;
        }

        /** WORTH for a REACH that is so much above the next, on a DAY with so much RAIN. */
        int worth(Reach reach, int above, int rain) {
            int top = 0;
            // Signs up to here are passed over: the CONDITION of their CLAUSE does not hold.
            int over = NONE;
            for (int i = 0; i < size && i < signs.length && i < numbers.length; i++) {
                int sign = signs[i];
                if (i <= over) {
                    continue;
                }
                if (sign == ';') {
                    return waiting[0];
                }
                if (sign == '?') {
                    over = waiting[0] == 0 ? numbers[i] : NONE;
                    top = 0;
                    continue;
                }
                boolean isLetter = sign >= 'a' && sign <= 'z';
                top -= isLetter || sign == NUMBER ? 0 : sign == '!' ? 1 : 2;
                if (top < 0 || top + 1 >= waiting.length) {
                    return 0;
                }
                if (isLetter) {
                    waiting[top] = within(letter(sign, reach, above, rain));
                } else if (sign == NUMBER) {
                    waiting[top] = numbers[i];
                } else {
                    waiting[top] = within(joined(sign, waiting[top], waiting[top + 1]));
                }
                top++;
            }
            return 0;
        }

        private static int within(long value) {
            return (int) (value > MOST_VALUE ? MOST_VALUE : value < -MOST_VALUE ? -MOST_VALUE : value);
        }

        private static int letter(int sign, Reach reach, int above, int rain) {
            switch (sign) {
                case 'd': return above;
                case 'h': return reach.width > 0 ? reach.water / reach.width : 0;
                case 'r': return reach.reeds;
                case 'w': return reach.width;
                case 'm': return reach.mud;
                case 's': return reach.soil;
                case 'q': return rain;
                case 'n': return reach.slips;
                default: return 0;
            }
        }

        /** What two become by a sign, truths being 1 and 0; '!' asks the first alone. */
        private static long joined(int sign, long one, long other) {
            switch (sign) {
                case '+': return one + other;
                case '-': return one - other;
                case '*': return one * other;
                case '/': return other == 0 ? 0 : one / other;
                case '=': return one == other ? 1 : 0;
                case '<': return one < other ? 1 : 0;
                case '>': return one > other ? 1 : 0;
                case '&': return one & other;
                case '|': return one | other;
                default: return one == 0 ? 1 : 0;
            }
        }
    }

    /** What does not belong to a DITCH: TIDE, SILT, SUMMER. */
    private static final class Weather {
        private int tide = 0;
        private int silt = 1;
        private int summer = 0;

        boolean put(int what, int v) {
            if (what == 0 && isIn(v, 0, 99)) {
                tide = v;
                return true;
            }
            if (what == 1 && isIn(v, 0, 9)) {
                silt = v;
                return true;
            }
            if (what == 2 && isIn(v, 0, 1)) {
                summer = v;
                return true;
            }
            return false;
        }
    }

    /** A REACH as it stands in a DITCH that is dug. */
    private static final class Reach {
        // The REACH behind this one; null: the MOUTH.
        private Reach next;
        private int soil;
        private int bed;
        private int width;
        private int owner;
        private int field;
        private int water;
        private int mud;
        private int reeds;
        private int load;
        private int flow;
        private int slips;
        private boolean wet;
        private boolean shut;
        // In a trial alone: it gets no SILT.
        private boolean unsilted;

        void digAs(int ofSoil, int ofBed, int ofWidth, int ofOwner, int ofField) {
            soil = ofSoil;
            bed = ofBed;
            width = ofWidth;
            owner = ofOwner;
            field = ofField;
            water = 0;
            mud = 0;
            reeds = 0;
            load = 0;
            flow = 0;
            slips = 0;
            wet = false;
            shut = false;
            unsilted = false;
        }

        void becomes(Reach other) {
            digAs(other.soil, other.bed, other.width, other.owner, other.field);
            water = other.water;
            mud = other.mud;
            reeds = other.reeds;
            load = other.load;
            flow = other.flow;
            slips = other.slips;
            wet = other.wet;
            shut = other.shut;
        }

        int level() {
            return bed + mud + (width > 0 ? water / width : 0);
        }

        int spades() {
            return mud + reeds / 10;
        }

        int labour() {
            return spades() * (soil == CLAY ? 3 : soil == SAND ? 1 : 2);
        }

        int slow() {
            return soil == CLAY ? 2 : soil == SAND ? 4 : 1;
        }

        int fast() {
            return soil == CLAY ? 12 : soil == SAND ? 6 : 20;
        }

        int tells(int what) {
            switch (what) {
                case 0: return water;
                case 1: return level();
                case 2: return mud;
                case 3: return reeds;
                case 4: return load;
                case 5: return flow;
                case 6: return slips;
                case 7: return wet ? 1 : 0;
                case 8: return shut ? 1 : 0;
                default: return NONE;
            }
        }
    }

    /** A DITCH that is dug, as it stands: its REACHES as a chain from the head to the mouth. */
    private static final class Dug {
        private static final int ROUNDS = 4;
        private static final int MOST_REEDS = 99;
        private static final int MUD_OF_A_SLIP = 5;

        private final Weather weather;
        private final Reach[] reaches = new Reach[MOST_REACHES];
        private final int[] harm = new int[OWNERS];
        private final int[] spent = new int[OWNERS];
        // null: nothing is dug.
        private Reach head;
        private int size;
        private Law flowLaw;
        private Law slipLaw;
        private long seed;
        private long draws;
        private int days;
        private int waterOut;
        private int loadOut;
        private int cut;

        Dug(Weather weather) {
            this.weather = weather;
            for (int i = 0; i < reaches.length; i++) {
                reaches[i] = new Reach();
            }
        }

        boolean isDug() {
            return head != null;
        }

        int reaches() {
            return size;
        }

        int days() {
            return days;
        }

        Reach find(int reach) {
            return reach >= 0 && reach < size && reach < reaches.length ? reaches[reach] : null;
        }

        // -- digging

        private void chain(int many) {
            size = Math.min(many, reaches.length);
            head = null;
            for (int i = size - 1; i >= 0; i--) {
                Reach r = reaches[i];
                if (r != null) {
                    r.next = head;
                    head = r;
                }
            }
        }

        private void begin(Law flow, Law slips, long withSeed) {
            flowLaw = flow;
            slipLaw = slips;
            seed = withSeed;
            draws = withSeed;
            days = 0;
            waterOut = 0;
            loadOut = 0;
            cut = 0;
            for (int i = 0; i < harm.length && i < spent.length; i++) {
                harm[i] = 0;
                spent[i] = 0;
            }
        }

        void digTold(Ditch ditch, Law flow, Law slips, long withSeed) {
            chain(ditch.reaches());
            int i = 0;
            for (Reach r = head; r != null; r = r.next) {
                r.digAs(ditch.tells(i, Ditch.SOIL), ditch.tells(i, Ditch.BED), ditch.tells(i, Ditch.WIDTH),
                        ditch.tells(i, Ditch.OWNER), ditch.tells(i, Ditch.FIELD));
                i++;
            }
            begin(flow, slips, withSeed);
        }

        /** By the LAWS and the seed that another one was DUG with. */
        void digLike(Dug other, Ditch ditch) {
            digTold(ditch, other.flowLaw, other.slipLaw, other.seed);
        }

        void digForm(int many, int soil, int width, int fall, Law flow) {
            chain(many);
            int bed = fall * (size - 1);
            for (Reach r = head; r != null; r = r.next) {
                r.digAs(soil, bed, width, 0, 99);
                bed -= fall;
            }
            begin(flow, null, 0);
        }

        void becomes(Dug other) {
            chain(other.size);
            Reach from = other.head;
            for (Reach r = head; r != null && from != null; r = r.next) {
                r.becomes(from);
                from = from.next;
            }
            begin(other.flowLaw, other.slipLaw, other.seed);
            draws = other.draws;
            days = other.days;
            waterOut = other.waterOut;
            loadOut = other.loadOut;
            cut = other.cut;
            for (int i = 0; i < harm.length && i < spent.length; i++) {
                harm[i] = other.harmOf(i);
                spent[i] = other.spentOf(i);
            }
        }

        void sink(int by) {
            for (Reach r = head; r != null; r = r.next) {
                r.bed = Math.max(0, r.bed - by);
                r.field = Math.max(0, r.field - by);
            }
        }

        void raiseFields(int owner, int by) {
            for (Reach r = head; r != null; r = r.next) {
                if (r.owner == owner) {
                    r.field += by;
                }
            }
        }

        // -- days

        void goDays(Rain rain) {
            for (int day = 0; day < rain.days(); day++) {
                goDay(rain.on(day));
            }
        }

        /** As another one stands: some CLEAN, then the DAYS of a RAIN. */
        void goApart(Dug other, int cleaners, Rain rain) {
            becomes(other);
            cleanSome(cleaners);
            goDays(rain);
        }

        void goDay(int rain) {
            takeRain(rain);
            for (int round = 0; round < ROUNDS; round++) {
                setFlows(rain);
                moveWater();
                moveLoad();
            }
            slipSides(rain);
            growReeds();
            wetFields();
            days++;
        }

        private void takeRain(int rain) {
            for (Reach r = head; r != null; r = r.next) {
                r.water += rain;
                if (rain > 0 && !r.unsilted) {
                    r.load += weather.silt;
                }
            }
        }

        private int aboveNext(Reach r) {
            return r.level() - (r.next == null ? weather.tide : r.next.level());
        }

        /** Sets all FLOWS ahead of any WATER going: each is asked of the DITCH as it is before the ROUND. */
        private void setFlows(int rain) {
            for (Reach r = head; r != null; r = r.next) {
                int above = aboveNext(r);
                r.flow = 0;
                if (!r.shut && above > 0 && r.water > 0 && flowLaw != null) {
                    int most = Math.min(r.water, above * r.width);
                    r.flow = Math.max(0, Math.min(flowLaw.worth(r, above, rain), most));
                }
            }
        }

        private void moveWater() {
            for (Reach r = head; r != null; r = r.next) {
                r.water -= r.flow;
                if (r.next == null) {
                    waterOut += r.flow;
                } else {
                    r.next.water += r.flow;
                }
            }
        }

        private void moveLoad() {
            // What comes from the REACH ahead is put down only when this one's own LOAD is gone: all at once.
            int coming = 0;
            for (Reach r = head; r != null; r = r.next) {
                int going = 0;
                if (r.flow < r.slow()) {
                    r.mud += r.load;
                } else {
                    going = r.load;
                    if (r.flow > r.fast() && r.mud > 0) {
                        r.mud--;
                        cut++;
                        going++;
                    }
                }
                r.load = coming;
                coming = going;
            }
            loadOut += coming;
        }

        private void slipSides(int rain) {
            if (slipLaw == null) {
                return;
            }
            for (Reach r = head; r != null; r = r.next) {
                if (draw() < slipLaw.worth(r, aboveNext(r), rain)) {
                    r.mud += MUD_OF_A_SLIP;
                    r.slips++;
                }
            }
        }

        private int draw() {
            draws = draws * 6364136223846793005L + 1442695040888963407L;
            return (int) ((draws >>> 33) % 100);
        }

        private void growReeds() {
            if (weather.summer == 0) {
                return;
            }
            for (Reach r = head; r != null; r = r.next) {
                r.reeds = Math.min(MOST_REEDS, r.reeds + 1);
            }
        }

        private void wetFields() {
            for (Reach r = head; r != null; r = r.next) {
                r.wet = r.level() > r.field;
                if (r.wet && r.owner >= 0 && r.owner < harm.length) {
                    harm[r.owner]++;
                }
            }
        }

        // -- owners

        int owners() {
            int greatest = 0;
            for (Reach r = head; r != null; r = r.next) {
                greatest = Math.max(greatest, r.owner);
            }
            return greatest + 1;
        }

        int reachesOf(int owner) {
            int many = 0;
            for (Reach r = head; r != null; r = r.next) {
                if (r.owner == owner) {
                    many++;
                }
            }
            return many;
        }

        int harmOf(int owner) {
            return owner >= 0 && owner < harm.length ? harm[owner] : 0;
        }

        int harmOfAll() {
            int sum = 0;
            for (int h : harm) {
                sum += h;
            }
            return sum;
        }

        int spentOf(int owner) {
            return owner >= 0 && owner < spent.length ? spent[owner] : 0;
        }

        int spadesOf(int owner) {
            int spades = 0;
            for (Reach r = head; r != null; r = r.next) {
                if (r.owner == owner) {
                    spades += r.spades();
                }
            }
            return spades;
        }

        /** The OWNERS (bits) whose CLEANING would change anything. */
        int withMudOrReeds() {
            int owners = 0;
            for (Reach r = head; r != null; r = r.next) {
                if (r.mud > 0 || r.reeds > 0) {
                    owners |= 1 << r.owner;
                }
            }
            return owners;
        }

        int cleanOne(int owner) {
            int spades = spadesOf(owner);
            for (Reach r = head; r != null; r = r.next) {
                if (r.owner == owner) {
                    r.mud = 0;
                    r.reeds = 0;
                }
            }
            if (owner >= 0 && owner < spent.length) {
                spent[owner] += spades;
            }
            return spades;
        }

        int cleanSome(int cleaners) {
            int spades = 0;
            for (int owner = 0; owner < OWNERS; owner++) {
                if ((cleaners >> owner & 1) == 1) {
                    spades += cleanOne(owner);
                }
            }
            return spades;
        }

        // -- what is asked of all

        int tells(int what) {
            switch (what) {
                case 0: return days;
                case 1: return sumOf(0);
                case 2: return sumOf(2);
                case 3: return sumOf(4);
                case 4: return waterOut;
                case 5: return loadOut;
                case 6: return cut;
                case 7: return harmOfAll();
                case 8: return sumOf(6);
                default: return NONE;
            }
        }

        private int sumOf(int what) {
            int sum = 0;
            for (Reach r = head; r != null; r = r.next) {
                sum += r.tells(what);
            }
            return sum;
        }

        int wholeMud() {
            return sumOf(2);
        }

        int wholeCut() {
            return cut;
        }

        int wholeWork() {
            int sum = 0;
            for (Reach r = head; r != null; r = r.next) {
                sum += r.labour();
            }
            return sum;
        }

        int muddierThan(int bound) {
            int many = 0;
            for (Reach r = head; r != null; r = r.next) {
                if (r.mud > bound) {
                    many++;
                }
            }
            return many;
        }

        int muddiest() {
            int most = NONE;
            int muddiest = NONE;
            int i = 0;
            for (Reach r = head; r != null; r = r.next) {
                if (r.mud > most) {
                    most = r.mud;
                    muddiest = i;
                }
                i++;
            }
            return muddiest;
        }

        /** The longest row of WET REACHES: where it begins, or how many. */
        int longestWet(boolean howMany) {
            int begin = NONE;
            int most = 0;
            int row = 0;
            int i = 0;
            for (Reach r = head; r != null; r = r.next) {
                row = r.wet ? row + 1 : 0;
                i++;
                if (row > most) {
                    most = row;
                    begin = i - row;
                }
            }
            return howMany ? most : begin;
        }
    }

    /** What is tried apart from the DITCH as it stands: each time the trial becomes it anew. */
    private static final class Trials {
        private final Dug stand;
        private final Dug trial;
        // By turns: who CLEANS ahead of DAY 0, 1 ..
        private final int[] turns = new int[OWNERS];

        Trials(Dug stand, Dug trial) {
            this.stand = stand;
            this.trial = trial;
        }

        /** HARM more of an OWNER (NONE: of all), some CLEANING first. */
        int harmMore(Rain rain, int cleaners, int owner) {
            trial.goApart(stand, cleaners, rain);
            return owner == NONE ? harmMoreOfAll() : trial.harmOf(owner) - stand.harmOf(owner);
        }

        private int harmMoreOfAll() {
            return trial.harmOfAll() - stand.harmOfAll();
        }

        int firstToClean(Rain rain) {
            int first = NONE;
            int least = 0;
            for (int owner = 0; owner < stand.owners(); owner++) {
                trial.goApart(stand, 1 << owner, rain);
                if (first == NONE || harmMoreOfAll() < least) {
                    first = owner;
                    least = harmMoreOfAll();
                }
            }
            return first;
        }

        int dayToClean(Rain rain, boolean harm) {
            int best = NONE;
            int least = 0;
            for (int day = 0; day < rain.days(); day++) {
                int more = harmCleanedAheadOf(rain, day);
                if (best == NONE || more < least) {
                    best = day;
                    least = more;
                }
            }
            return harm ? least : best;
        }

        private int harmCleanedAheadOf(Rain rain, int cleaningDay) {
            trial.becomes(stand);
            for (int day = 0; day < rain.days(); day++) {
                if (day == cleaningDay) {
                    trial.cleanSome(ALL_OWNERS);
                }
                trial.goDay(rain.on(day));
            }
            return harmMoreOfAll();
        }

        int yearsToClean(Rain rain, int price, int years, boolean cost) {
            int best = NONE;
            int least = 0;
            for (int k = 1; k <= 6; k++) {
                int its = costOfEvery(rain, price, years, k);
                if (best == NONE || its < least) {
                    best = k;
                    least = its;
                }
            }
            return cost ? least : best;
        }

        private int costOfEvery(Rain rain, int price, int years, int k) {
            int spades = 0;
            trial.becomes(stand);
            for (int year = 0; year < years; year++) {
                if (k > 0 && year % k == 0) {
                    spades += trial.cleanSome(ALL_OWNERS);
                }
                trial.goDays(rain);
            }
            return harmMoreOfAll() * price + spades;
        }

        int harmByNumbers(Rain rain, boolean down) {
            int owners = stand.owners();
            for (int i = 0; i < owners && i < turns.length; i++) {
                turns[i] = down ? owners - 1 - i : i;
            }
            return harmByTurns(rain, owners);
        }

        private int harmByTurns(Rain rain, int owners) {
            trial.becomes(stand);
            for (int day = 0; day < rain.days(); day++) {
                if (day < owners && day < turns.length) {
                    trial.cleanOne(turns[day]);
                }
                trial.goDay(rain.on(day));
            }
            return harmMoreOfAll();
        }

        int bestTurns(Rain rain) {
            int owners = stand.owners();
            int best = NONE;
            int least = 0;
            // 3210 is the last order of four, and behind those of fewer.
            for (int digits = 0; owners <= MOST_IN_TURN && digits <= 3210; digits++) {
                if (areTurns(digits, owners)) {
                    int more = harmByTurns(rain, owners);
                    if (best == NONE || more < least) {
                        best = digits;
                        least = more;
                    }
                }
            }
            return best;
        }

        /** Whether the digits are an order of so many OWNERS; the turns are that order then. */
        private boolean areTurns(int digits, int owners) {
            int rest = digits;
            int seen = 0;
            for (int i = Math.min(owners, turns.length) - 1; i >= 0; i--) {
                turns[i] = rest % 10;
                seen |= 1 << turns[i];
                rest /= 10;
            }
            return rest == 0 && seen == (1 << owners) - 1;
        }

        int mudBehind(Rain rain, int reach, int unsilted) {
            trial.becomes(stand);
            Reach without = trial.find(unsilted);
            if (without != null) {
                without.unsilted = true;
            }
            trial.goDays(rain);
            Reach asked = trial.find(reach);
            return asked == null ? 0 : asked.mud;
        }

        /** HARM more of another one, with the FIELDS of an OWNER so much higher. */
        int harmWithBanks(Rain rain, int owner, int up, int other) {
            trial.becomes(stand);
            trial.raiseFields(owner, up);
            trial.goDays(rain);
            return trial.harmOf(other) - stand.harmOf(other);
        }

        int higherAsItStands(Rain rain, int owner) {
            for (int up = 0; up <= MOST_HIGHER; up++) {
                if (harmWithBanks(rain, owner, up, owner) == 0) {
                    return up;
                }
            }
            return NONE;
        }

        int higherAnew(Ditch ditch, Rain rain, int owner) {
            for (int up = 0; up <= MOST_HIGHER; up++) {
                trial.digLike(stand, ditch);
                trial.raiseFields(owner, up);
                trial.goDays(rain);
                if (trial.harmOf(owner) == 0) {
                    return up;
                }
            }
            return NONE;
        }

        int yearsToSink(Ditch ditch, Rain rain, int by, int bound) {
            for (int year = 1; year <= MOST_YEARS_SINKING; year++) {
                trial.digLike(stand, ditch);
                trial.sink(by * year);
                trial.goDays(rain);
                if (trial.harmOfAll() > bound) {
                    return year;
                }
            }
            return NONE;
        }

        int sandsOf(Ditch ditch, Rain rain, int what) {
            trial.digLike(stand, ditch);
            trial.goDays(rain);
            int muddiest = trial.muddiest();
            Reach reach = trial.find(muddiest);
            if (reach == null || what == 0) {
                return muddiest;
            }
            return what == 1 ? reach.mud : trial.wholeCut();
        }

        int fallsThatKeep(int reaches, int soil, int width, Law law, Rain rain, int by) {
            int keep = 0;
            for (int fall = 0; fall <= MOST_FALL; fall++) {
                trial.digForm(reaches, soil, width, fall, law);
                trial.goDays(rain);
                if (trial.wholeMud() <= by && trial.wholeCut() == 0) {
                    keep |= 1 << fall;
                }
            }
            return keep;
        }
    }

    /** The GAME: what each OWNER has by each set of cleaners (bits). */
    private static final class Game {
        private static final int FINE = 1;
        private static final int SHARE = 2;

        private final Dug stand;
        private final Dug trial;
        private final int[][] harm = new int[ALL_OWNERS + 1][OWNERS];
        private int price;
        private int kind;
        private int fine;

        Game(Dug stand, Dug trial) {
            this.stand = stand;
            this.trial = trial;
        }

        void begin(int withPrice, int ofKind, int withFine) {
            price = withPrice;
            kind = ofKind;
            fine = withFine;
        }

        int owners() {
            return stand.owners();
        }

        int sets() {
            return 1 << owners();
        }

        /** Notes the HARM more by each set from one to another (that one not). */
        void play(Rain rain, int from, int to) {
            int able = stand.withMudOrReeds();
            for (int set = Math.max(0, from); set < to && set < harm.length; set++) {
                // Who has nothing to CLEAN changes nothing by it: the same HARM was noted already.
                int same = set & able;
                boolean isNoted = same >= from && same < set;
                if (!isNoted) {
                    trial.goApart(stand, set, rain);
                }
                for (int owner = 0; owner < harm[set].length; owner++) {
                    harm[set][owner] = isNoted ? noted(same, owner) : trial.harmOf(owner) - stand.harmOf(owner);
                }
            }
        }

        private int noted(int set, int owner) {
            boolean isSet = set >= 0 && set < harm.length;
            return isSet && owner >= 0 && owner < harm[set].length ? harm[set][owner] : 0;
        }

        int haveOf(int set, int owner) {
            return -noted(set, owner) * price - paidBy(set, owner);
        }

        private int paidBy(int set, int owner) {
            if (kind == SHARE) {
                int sharing = owners();
                return sharing > 0 ? spadesOf(set) / sharing : 0;
            }
            if ((set >> owner & 1) == 1) {
                return stand.spadesOf(owner);
            }
            return kind == FINE ? fine : 0;
        }

        private int spadesOf(int set) {
            int spades = 0;
            for (int owner = 0; owner < OWNERS; owner++) {
                if ((set >> owner & 1) == 1) {
                    spades += stand.spadesOf(owner);
                }
            }
            return spades;
        }

        private boolean isAtRest(int set) {
            for (int owner = 0; owner < owners(); owner++) {
                if (haveOf(set ^ 1 << owner, owner) > haveOf(set, owner)) {
                    return false;
                }
            }
            return true;
        }

        /** The i-th set AT REST; NONE: how many there are. */
        int atRest(int i) {
            int many = 0;
            for (int set = 0; set < sets(); set++) {
                if (isAtRest(set)) {
                    if (many == i) {
                        return set;
                    }
                    many++;
                }
            }
            return i == NONE ? many : NONE;
        }

        int bestTogether() {
            int best = NONE;
            int most = 0;
            for (int set = 0; set < sets(); set++) {
                int together = 0;
                for (int owner = 0; owner < owners(); owner++) {
                    together += haveOf(set, owner);
                }
                if (best == NONE || together > most) {
                    best = set;
                    most = together;
                }
            }
            return best;
        }
    }

    /** The STAFFS, and what they tell of where the DITCH is SHUT. */
    private static final class Staffs {
        private final Dug stand;
        private final Dug trial;
        private final int[] levels = new int[MOST_REACHES];

        Staffs(Dug stand, Dug trial) {
            this.stand = stand;
            this.trial = trial;
            for (int i = 0; i < levels.length; i++) {
                levels[i] = NONE;
            }
        }

        boolean put(int reach, int level) {
            if (reach < 0 || reach >= levels.length || !isIn(level, NONE, THREE_DIGITS)) {
                return false;
            }
            levels[reach] = level;
            return true;
        }

        /** The RAIN goes by with a REACH SHUT (NONE: none more). */
        private void goShut(Rain rain, int reach) {
            trial.becomes(stand);
            Reach found = trial.find(reach);
            if (found != null) {
                found.shut = true;
            }
            trial.goDays(rain);
        }

        private int offAt(int i) {
            Reach reach = trial.find(i);
            if (reach == null || i < 0 || i >= levels.length || levels[i] == NONE) {
                return 0;
            }
            return Math.abs(reach.level() - levels[i]);
        }

        private boolean agree(int by) {
            for (int i = 0; i < levels.length; i++) {
                if (offAt(i) > by) {
                    return false;
                }
            }
            return true;
        }

        int agreeOpen(Rain rain, int by) {
            goShut(rain, NONE);
            return agree(by) ? 1 : 0;
        }

        int shutWhere(Rain rain, int by) {
            int reaches = 0;
            for (int i = 0; i < stand.reaches(); i++) {
                goShut(rain, i);
                if (agree(by)) {
                    reaches |= 1 << i;
                }
            }
            return reaches;
        }

        int offTogether(Rain rain, int reach) {
            goShut(rain, reach);
            int off = 0;
            for (int i = 0; i < levels.length; i++) {
                off += offAt(i);
            }
            return off;
        }
    }

    /** The WORK of a DITCH in rows of REACHES, one for each man. */
    private static final class Notches {
        private static final int MOST_MEN = 6;

        // WORK of all REACHES ahead of each.
        private final int[] ahead = new int[MOST_REACHES + 1];
        // By rows and a REACH: the least that the most WORK of one row can be, in so many rows from it on.
        private final int[][] least = new int[MOST_MEN + 1][MOST_REACHES + 1];
        private int reaches;

        int tell(Dug stand, int men, int i) {
            sumUp(stand);
            if (men < 1 || men > MOST_MEN || men > reaches || i < NONE || i >= men) {
                return NONE;
            }
            for (int rows = 1; rows <= men && rows < least.length; rows++) {
                for (int from = 0; from <= reaches - rows && from < least[rows].length; from++) {
                    least[rows][from] = leastIn(rows, from);
                }
            }
            return i == NONE ? leastOf(men, 0) : beginOf(i, men);
        }

        private void sumUp(Dug stand) {
            reaches = 0;
            for (int i = 0; i + 1 < ahead.length; i++) {
                Reach reach = stand.find(i);
                if (reach != null) {
                    ahead[i + 1] = ahead[i] + reach.labour();
                    reaches = i + 1;
                }
            }
        }

        private int workOf(int from, int to) {
            return from >= 0 && from <= to && to < ahead.length ? ahead[to] - ahead[from] : 0;
        }

        private int leastOf(int rows, int from) {
            boolean isRows = rows >= 0 && rows < least.length;
            return isRows && from >= 0 && from < least[rows].length ? least[rows][from] : 0;
        }

        private int leastIn(int rows, int from) {
            int best = workOf(from, reaches);
            for (int to = from + 1; rows > 1 && to <= reaches - rows + 1; to++) {
                best = Math.min(best, Math.max(workOf(from, to), leastOf(rows - 1, to)));
            }
            return best;
        }

        /** Each row is as short as it can be while the rows behind it stay within the least. */
        private int beginOf(int row, int men) {
            int most = leastOf(men, 0);
            int begin = 0;
            for (int i = 1; i <= row; i++) {
                begin++;
                while (begin < reaches && leastOf(men - i, begin) > most) {
                    begin++;
                }
            }
            return begin;
        }
    }
}
