import java.util.Arrays;
import java.util.NoSuchElementException;

/** A lorry and its men empty the bins of streets before the tip shuts. */
public final class BinsBothSides {
    public static final int NONE = -1;

    private static final int MOST_STREETS = 6;
    private static final int BLOCKS = 8;
    /** Houses are numbered side * BLOCKS + block, so that the bins of a street are bits of one int. */
    private static final int HOUSES = 2 * BLOCKS;
    private static final int WEEK_DAYS = 7;

    private static final int MOST_SIGNS = 80;
    private static final int STREETS_SIGNS = 76;
    private static final int RULE_SIGNS = 40;
    private static final int ROUND_SIGNS = 60;

    private static final int FULL = 0;
    private static final int MEN = 1;
    private static final int RAIN = 2;
    private static final int TWICE = 3;
    private static final int LIFT = 4;
    private static final int TIP = 5;
    private static final int SHUT = 6;

    private static final int MINUTE = 60;
    private static final int TIPPING = 300;
    private static final int DRIVING = 10;
    private static final int BLOCK_AHEAD = 5;
    private static final int BLOCK_BACKED = 9;
    private static final int ACROSS = 11;
    private static final int BLOCK_CARRIED = 4;
    private static final int LEAVING = 3;

    private static final int ONE_SIDE_THEN_OTHER = 0;
    private static final int BOTH_AT_ONCE = 1;
    private static final int CARRIED = 2;
    private static final int HOWS = 3;

    private static final int OUT = 1;
    private static final int EMPTIED = 2;
    private static final int LEFT = 3;

    /** Far above what all bins of a street can weigh, and any sum of days: no bound. */
    private static final int WITHOUT_END = 1000000;

    private static final int SHEET_BYTES = 0;
    private static final int SHEET_SHORTS = 1;
    private static final int SHEET_MISSING = 3;

    /** An act of a round is one int: its kind times ACT_STEP, and its number behind it. */
    private static final int ACT_STEP = 10000;
    private static final int ACT_GO = 0;
    private static final int ACT_EMPTY = 1;
    private static final int ACT_TIP = 2;
    private static final int ACT_PAUSE = 3;

    private static final int NOT_AT_X = -2;
    private static final int BARRED_NOW = -3;
    private static final int TIP_IS_SHUT = -2;
    private static final int ORDER_FINDS_TIP_SHUT = -200;
    private static final int NO_SUCH_COUNT = -100;

    private final Text text = new Text();
    private final Settings settings = new Settings();
    private final Rule rule = new Rule();
    private final Town town = new Town();
    private final State state = new State();
    private final History history = new History();
    private final Loads loads = new Loads(town, settings);
    private final Job job = new Job(settings, rule);
    private final Orders orders = new Orders(town, settings, rule);
    private final Days days = new Days(town);
    private final State[] keptStates = {new State(), new State(), new State()};
    /** How many streets there were when a state was kept; NONE where nothing is kept. */
    private final int[] keptStreets = {NONE, NONE, NONE};
    private final int[] acts = new int[ROUND_SIGNS / 2];
    private final long[] told = new long[MOST_STREETS];
    private int toldCount;
    private int chance;

    public BinsBothSides() {
    }

    // ---- the town

    public int sign(int v) {
        return text.append(v) ? text.length : NONE;
    }

    public boolean end(int n) {
        return text.shorten(n);
    }

    public int streets() {
        int before = town.size;
        int answer = town.read(text);
        text.clear();
        for (int s = before; s < town.size; s++) {
            state.putOut(s, town.binsOf(s));
        }
        if (answer > 0) {
            history.clear();
        }
        return answer;
    }

    public int rule() {
        int answer = rule.read(text);
        text.clear();
        return answer;
    }

    public int street(int s, int what) throws NoSuchElementException {
        Street street = town.at(s);
        if (street == null) {
            throw new NoSuchElementException("no such street");
        }
        switch (what) {
            case 0: return street.place;
            case 1: return street.blocks;
            case 2: return street.slope;
            case 3: return street.deadEnd ? 1 : 0;
            case 4: return street.day;
            case 5: return street.from;
            case 6: return street.to;
            case 7: return Integer.bitCount(state.outOf(s));
            case 8: return settings.weigh(street, state.outOf(s), settings.get(RAIN));
            default: throw new NoSuchElementException("no such what");
        }
    }

    public int bin(int s, int side, int block, int what) throws NoSuchElementException {
        Street street = town.at(s);
        if (street == null || side < 0 || side > 1 || block < 0 || block >= street.blocks) {
            throw new NoSuchElementException("no such house");
        }
        int house = side * BLOCKS + block;
        switch (what) {
            case 0: return street.weightAt(house);
            case 1: return settings.heavy(street.weightAt(house), settings.get(RAIN));
            case 2: return state.kindOf(s, house);
            case 3:
                job.think(settings.get(MEN), street.slope);
                return job.byHand(street, house, 0);
            default: throw new NoSuchElementException("no such what");
        }
    }

    public int set(int what, int v) {
        if (what == FULL && v < state.load) {
            return NONE;
        }
        return settings.change(what, v);
    }

    public int dayOf(int s, int v) {
        Street street = town.at(s);
        if (street == null || v < 0 || v >= WEEK_DAYS) {
            return NONE;
        }
        int was = street.day;
        street.day = v;
        return was;
    }

    public int sheet(int kind, int n, int f, int step) {
        if (kind < SHEET_BYTES || kind > SHEET_MISSING || n > MOST_STREETS) {
            return NONE;
        }
        if (kind == SHEET_MISSING) {
            town.placeAll(kind, 0, f, step);
            return -3;
        }
        if (n < 0) {
            return -2;
        }
        return town.placeAll(kind, n, f, step);
    }

    // ---- the round

    public int drive(int s) {
        history.note(state);
        return remember(goTo(s));
    }

    public int empty(int s, int how) {
        history.note(state);
        int seconds = remember(emptyBins(s, how));
        if (seconds >= 0) {
            tell(Integer.bitCount(job.emptiedBits));
            tellMore(Integer.bitCount(job.leftBits));
            tellMore(job.loaded);
            tellMore(job.stay);
        }
        return seconds;
    }

    public int tip() {
        history.note(state);
        int tipped = state.load;
        int seconds = remember(goTip());
        if (seconds >= 0) {
            tell(tipped);
        }
        return seconds;
    }

    public int pause(int n) {
        history.note(state);
        return remember(waitFor(n));
    }

    public int week() {
        history.note(state);
        for (int s = 0; s < town.size; s++) {
            state.putOut(s, town.binsOf(s));
        }
        state.load = 0;
        state.place = 0;
        state.now = 0;
        return remember(state.countOf(OUT));
    }

    public int round() {
        int size = readActs();
        text.clear();
        if (size < 0) {
            return size;
        }
        history.note(state);
        int begun = state.now;
        int emptied = state.countOf(EMPTIED);
        int done = 0;
        while (done < size && done < acts.length && act(acts[done]) >= 0) {
            done++;
        }
        if (done > 0) {
            history.push();
        }
        tell(done < size ? 1 : 0);
        tellMore(state.countOf(EMPTIED) - emptied);
        tellMore(state.now - begun);
        return done;
    }

    public int undo() {
        return history.back(state) ? history.size : NONE;
    }

    /** What was done can be undone, unless it was refused. */
    private int remember(int answer) {
        if (answer >= 0) {
            history.push();
        }
        return answer;
    }

    private int goTo(int s) {
        Street street = town.at(s);
        if (street == null) {
            return NONE;
        }
        int seconds = driving(state.place, street.place);
        state.place = street.place;
        state.now += seconds;
        return seconds;
    }

    private int emptyBins(int s, int how) {
        Street street = town.at(s);
        if (street == null || how < 0 || how >= HOWS) {
            return NONE;
        }
        if (state.place != street.place) {
            return NOT_AT_X;
        }
        if (street.isBarred(state.now)) {
            return BARRED_NOW;
        }
        job.think(settings.get(MEN), street.slope);
        job.lay(street, how, state.outOf(s));
        job.go(state.load, settings.get(FULL));
        state.record(s, job);
        return job.seconds();
    }

    private int goTip() {
        int there = driving(state.place, settings.get(TIP));
        if ((state.now + there) / MINUTE > settings.get(SHUT)) {
            return TIP_IS_SHUT;
        }
        state.now += there + TIPPING;
        state.place = settings.get(TIP);
        state.load = 0;
        return there + TIPPING;
    }

    private int waitFor(int n) {
        if (n < 0 || n > 9999) {
            return NONE;
        }
        state.now += n;
        return state.now;
    }

    private int act(int code) {
        int number = code % ACT_STEP;
        switch (code / ACT_STEP) {
            case ACT_GO: return goTo(number);
            case ACT_EMPTY: return emptyBins(number / 10, number % 10);
            case ACT_TIP: return goTip();
            case ACT_PAUSE: return waitFor(number);
            default: return NONE;
        }
    }

    /** How many acts the text tells, or where it is wrong. */
    private int readActs() {
        text.begin(ROUND_SIGNS);
        if (text.isRead()) {
            return 0;
        }
        for (int i = 0; i < acts.length; i++) {
            int code = readAct();
            if (code < 0) {
                return text.fault();
            }
            acts[i] = code;
            if (text.isRead()) {
                return i + 1;
            }
            if (!text.accept(';')) {
                return text.fault();
            }
        }
        return text.fault();
    }

    private int readAct() {
        if (text.accept('t')) {
            return ACT_TIP * ACT_STEP;
        }
        if (text.accept('g')) {
            int s = text.digitBelow(10);
            return s < 0 ? NONE : ACT_GO * ACT_STEP + s;
        }
        if (text.accept('p')) {
            int n = text.number(4);
            return n < 0 ? NONE : ACT_PAUSE * ACT_STEP + n;
        }
        if (!text.accept('e')) {
            return NONE;
        }
        int s = text.digitBelow(10);
        int how = s < 0 ? NONE : text.digitBelow(HOWS);
        return how < 0 ? NONE : ACT_EMPTY * ACT_STEP + s * 10 + how;
    }

    // ---- one street

    public int takes(int s, int how) {
        Street street = town.at(s);
        if (street == null || how < 0 || how >= HOWS) {
            return NONE;
        }
        job.think(settings.get(MEN), street.slope);
        job.lay(street, how, state.outOf(s));
        job.go(0, WITHOUT_END);
        tell(job.hands);
        tellMore(job.moves);
        return job.seconds();
    }

    public int best(int s) {
        Street street = town.at(s);
        if (street == null) {
            return NONE;
        }
        job.think(settings.get(MEN), street.slope);
        int how = job.chooseHow(street, state.outOf(s));
        tell(job.secondsOf(0));
        tellMore(job.secondsOf(1));
        tellMore(job.secondsOf(2));
        return how;
    }

    public int less(int s) {
        Street street = town.at(s);
        if (street == null) {
            return NONE;
        }
        int men = settings.get(MEN);
        if (men <= 1) {
            return -2;
        }
        int all = quickest(street, men, street.slope);
        int fewer = quickest(street, men - 1, street.slope);
        tell(job.chosen);
        return fewer - all;
    }

    public int line(int s) {
        Street street = town.at(s);
        if (street == null) {
            return NONE;
        }
        job.think(settings.get(MEN), street.slope);
        int bins = 0;
        int near = 0;
        for (int i = 0; i < 2 * street.blocks; i++) {
            int bit = 1 << (i % 2 * BLOCKS + i / 2);
            if ((state.outOf(s) & bit) != 0) {
                near |= bit;
                job.chooseHow(street, near);
                int driven = Math.min(job.secondsOf(ONE_SIDE_THEN_OTHER), job.secondsOf(BOTH_AT_ONCE));
                if (job.secondsOf(CARRIED) > driven) {
                    tell(driven);
                    tellMore(job.secondsOf(CARRIED));
                    return bins;
                }
                bins++;
            }
        }
        tell(NONE);
        tellMore(NONE);
        return bins;
    }

    public int hill(int s) throws NoSuchElementException {
        Street street = town.at(s);
        if (street == null) {
            throw new NoSuchElementException("no such street");
        }
        int men = settings.get(MEN);
        return quickest(street, men, street.slope) - quickest(street, men, -1);
    }

    public int wet(int s, int v) {
        Street street = town.at(s);
        if (street == null || v < 0 || v > 9) {
            return NONE;
        }
        tell(settings.tooHeavy(street, state.outOf(s), v));
        return settings.weigh(street, state.outOf(s), v);
    }

    /** Seconds of the street by its best how, if there were so many men and such a hill. */
    private int quickest(Street street, int men, int slope) {
        job.think(men, slope);
        job.chooseHow(street, state.outOf(street.number));
        return job.secondsOf(job.chosen);
    }

    // ---- orders

    public int order() {
        int fault = orders.readPath(text);
        text.clear();
        if (fault < 0) {
            return fault;
        }
        orders.prepare(state.out);
        orders.start(state.load, state.place, state.now);
        if (!orders.followPath()) {
            return ORDER_FINDS_TIP_SHUT;
        }
        tell(orders.tips);
        tellMore(orders.stay);
        return orders.now - state.now;
    }

    public int soonest(int those) {
        if (those == 0 || !town.hasAll(those)) {
            return NONE;
        }
        orders.prepare(state.out);
        orders.start(state.load, state.place, state.now);
        orders.search(those, NONE);
        if (orders.soonestEnd < 0) {
            return TIP_IS_SHUT;
        }
        clearRow();
        for (int i = 0; i < Integer.bitCount(those); i++) {
            tellMore(orders.soonestAt(i));
        }
        return orders.soonestEnd - state.now;
    }

    public int most(int those, int v) {
        if (!town.hasAll(those) || v < 0 || v > 99999) {
            return NONE;
        }
        orders.prepare(state.out);
        orders.start(state.load, state.place, state.now);
        orders.search(those, v);
        tell(orders.mostBits);
        return Integer.bitCount(orders.mostBits);
    }

    public int tipnow(int s) {
        Street street = town.at(s);
        if (street == null) {
            return NONE;
        }
        int tipPlace = settings.get(TIP);
        int behind = quickest(street, settings.get(MEN), street.slope)
                + driving(street.place, tipPlace) + TIPPING;
        int now = driving(state.place, tipPlace) + TIPPING + driving(tipPlace, street.place) + behind;
        int alone = driving(state.place, street.place) + behind;
        if (job.would > settings.get(FULL)) {
            return -2;
        }
        tell(now);
        if (state.load + job.would > settings.get(FULL)) {
            tellMore(NONE);
            return 2;
        }
        tellMore(alone);
        return state.load != 0 && now < alone ? 1 : 0;
    }

    // ---- crews, days

    public int share(int those) {
        if (!town.hasAll(those)) {
            return NONE;
        }
        measureDays();
        int all = days.secondsOf(those);
        int least = all;
        int one = 0;
        for (int set = 1; set < 1 << MOST_STREETS; set++) {
            int sum = days.secondsOf(set);
            int greater = Math.max(sum, all - sum);
            if ((set & ~those) == 0 && greater < least) {
                least = greater;
                one = set;
            }
        }
        tell(one);
        tellMore(all - least);
        return least;
    }

    public int holiday(int v, int n) {
        if (v < 0 || v >= WEEK_DAYS || n < 0 || n > 99999) {
            return NONE;
        }
        measureDays();
        int moved = days.takeOff(v);
        if (moved == 0) {
            clearRow();
            return 0;
        }
        for (int latest = v + 1; latest < WEEK_DAYS; latest++) {
            if (days.spread(v + 1, latest, n)) {
                clearRow();
                for (int i = 0; i < moved; i++) {
                    tellMore(days.foundAt(i));
                }
                return latest - v;
            }
        }
        return -2;
    }

    public int busiest() {
        measureDays();
        int busy = 0;
        int idle = 0;
        for (int day = 1; day < WEEK_DAYS; day++) {
            if (days.secondsOn(day) > days.secondsOn(busy)) {
                busy = day;
            }
            if (days.secondsOn(day) < days.secondsOn(idle)) {
                idle = day;
            }
        }
        tell(days.secondsOn(busy));
        tellMore(days.secondsOn(idle));
        return busy;
    }

    private void measureDays() {
        days.clear();
        for (int s = 0; s < town.size; s++) {
            Street street = town.at(s);
            if (street != null) {
                job.think(settings.get(MEN), street.slope);
                days.put(street, job.secondsOf(job.chooseHow(street, state.outOf(s))));
            }
        }
    }

    // ---- rubble

    public int weighed(int those, int v) {
        if (!town.hasAll(those) || v < 0 || v > 9999) {
            return NONE;
        }
        return loads.add(those, v) ? loads.size : NONE;
    }

    public int forget() {
        int was = loads.size;
        loads.size = 0;
        return was;
    }

    public int rubble() {
        loads.study();
        clearRow();
        for (int s = 0; s < town.size; s++) {
            if (loads.pairsIn(1 << s) > 0) {
                tell(s);
                tellMore(0);
                tellMore(0);
                tellMore(loads.leastMoreOf(s));
                break;
            }
        }
        return loads.pairsIn((1 << town.size) - 1);
    }

    public int whose() {
        loads.study();
        int bits = 0;
        for (int s = 0; s < town.size; s++) {
            if (loads.pairsIn(1 << s) > 0) {
                bits |= 1 << s;
            }
        }
        tell(loads.rightWithout ? 1 : 0);
        return bits;
    }

    public int next() {
        loads.study();
        int all = loads.pairsIn((1 << town.size) - 1);
        if (all == 0) {
            return -2;
        }
        int least = all;
        int bits = 0;
        for (int set = 1; set < 1 << town.size; set++) {
            int in = loads.pairsIn(set);
            int left = Math.max(in, all - in);
            if (left < least) {
                least = left;
                bits = set;
            }
        }
        tell(least);
        return bits;
    }

    // ---- odds, weeks

    public int right(int s, int p) {
        if (town.at(s) == null || p < 0 || p > 10) {
            return NONE;
        }
        int bins = Integer.bitCount(state.outOf(s));
        long upper = power(p, bins);
        long lower = power(10, bins);
        long divisor = commonDivisor(lower, upper);
        if (divisor > 0) {
            upper /= divisor;
            lower /= divisor;
        }
        tell(upper);
        tellMore(lower);
        return 0;
    }

    public int care(int s, int v) {
        if (town.at(s) == null || v < 0 || v > 100) {
            return NONE;
        }
        int bins = Integer.bitCount(state.outOf(s));
        for (int p = 0; p < 10; p++) {
            if (power(p, bins) * 100 >= power(10, bins) * v) {
                return p;
            }
        }
        return 10;
    }

    public int weeks(int seed, int n, int p) {
        if (town.size == 0 || n < 1 || n > 20 || p < 0 || p > 10) {
            return NONE;
        }
        chance = seed;
        orders.pathToAll();
        int open = 0;
        int fewest = NONE;
        int most = NONE;
        for (int i = 0; i < n; i++) {
            orders.prepare(drawOut(p));
            orders.start(0, 0, 0);
            if (orders.followPath()) {
                fewest = open == 0 ? orders.now : Math.min(fewest, orders.now);
                most = Math.max(most, orders.now);
                open++;
            }
        }
        tell(fewest);
        tellMore(most);
        return open;
    }

    /** Which bins are out in a week that is drawn: bits of each street. */
    private int[] drawOut(int p) {
        int[] drawn = orders.drawn;
        for (int s = 0; s < town.size && s < drawn.length; s++) {
            int bins = town.binsOf(s);
            int out = 0;
            for (int house = 0; house < HOUSES; house++) {
                if ((bins >> house & 1) != 0 && drawTenth() < p) {
                    out |= 1 << house;
                }
            }
            drawn[s] = out;
        }
        return drawn;
    }

    private int drawTenth() {
        chance = chance * 1103515245 + 12345;
        return (chance >>> 16) % 10;
    }

    private static long power(int base, int times) {
        long value = 1;
        for (int i = 0; i < times; i++) {
            value *= base;
        }
        return value;
    }

    private static long commonDivisor(long a, long b) {
        long greater = a;
        long lesser = b;
        for (int i = 0; i < 100 && lesser != 0; i++) {
            long rest = greater % lesser;
            greater = lesser;
            lesser = rest;
        }
        return greater;
    }

    // ---- kept

    public boolean keep(int i) {
        if (i < 0 || i >= keptStates.length) {
            return false;
        }
        keptStates[i].become(state);
        keptStreets[i] = town.size;
        return true;
    }

    public boolean again(int i) {
        if (i < 0 || i >= keptStates.length || keptStreets[i] != town.size
                || keptStates[i].load > settings.get(FULL)) {
            return false;
        }
        state.become(keptStates[i]);
        history.clear();
        return true;
    }

    public int count(int what) {
        switch (what) {
            case 0: return town.size;
            case 1: return state.place;
            case 2: return state.load;
            case 3: return state.now;
            case 4: return state.countOf(OUT);
            case 5: return state.countOf(EMPTIED);
            case 6: return state.countOf(LEFT);
            case 7: return loads.size;
            case 8: return history.size;
            case 9: return toldCount;
            case 10: return text.length;
            case 11: return settings.get(FULL);
            default: return NO_SUCH_COUNT;
        }
    }

    public long row(int i) throws NoSuchElementException {
        if (i < 0 || i >= toldCount || i >= told.length) {
            throw new NoSuchElementException("no such number of the row");
        }
        return told[i];
    }

    private void clearRow() {
        toldCount = 0;
    }

    /** The first number of a new row. */
    private void tell(long number) {
        clearRow();
        tellMore(number);
    }

    private void tellMore(long number) {
        if (toldCount < told.length) {
            told[toldCount] = number;
            toldCount++;
        }
    }

    private static int driving(int from, int to) {
        return DRIVING * Math.abs(from - to);
    }

    /** The signs that came, and how far they are read. */
    private static final class Text {
        private static final int NO_SIGN = -1;

        private final int[] signs = new int[MOST_SIGNS];
        private int length;
        private int at;
        private int limit;

        boolean append(int v) {
            if (length + 4 > signs.length) {
                return false;
            }
            for (int shift = 24; shift >= 0; shift -= 8) {
                signs[length] = v >>> shift & 255;
                length++;
            }
            return true;
        }

        boolean shorten(int n) {
            if (n < 0 || n > length) {
                return false;
            }
            length = n;
            return true;
        }

        void clear() {
            length = 0;
        }

        /** From here on it is read; of a longer text the sign behind the most is never accepted. */
        void begin(int mostSigns) {
            at = 0;
            limit = Math.min(length, mostSigns);
        }

        boolean isRead() {
            return at >= length;
        }

        /** The answer that tells that the sign ahead can't stand there. */
        int fault() {
            return -1 - at;
        }

        int look() {
            return at >= 0 && at < limit && at < signs.length ? signs[at] : NO_SIGN;
        }

        void pass() {
            at++;
        }

        void stepBack() {
            at--;
        }

        boolean accept(char sign) {
            if (look() != sign) {
                return false;
            }
            pass();
            return true;
        }

        /** The digit ahead, if it is below n; else NONE, and it is not passed. */
        int digitBelow(int n) {
            int digit = look() - '0';
            if (digit < 0 || digit >= n) {
                return NONE;
            }
            pass();
            return digit;
        }

        /** A number of one digit or more, at most so many; NONE if there is no digit. */
        int number(int mostDigits) {
            int value = NONE;
            for (int i = 0; i < mostDigits; i++) {
                int digit = look() - '0';
                if (digit < 0 || digit > 9) {
                    return value;
                }
                pass();
                value = i == 0 ? digit : value * 10 + digit;
            }
            return value;
        }
    }

    /** What can be set, by its what. */
    private static final class Settings {
        private static final int[] LEAST = {1, 1, 0, 1, 1, 0, 0};
        private static final int[] GREATEST = {999, 4, 9, 2, 99, 99, 999};

        private final int[] values = {100, 2, 0, 1, 30, 50, 480};

        int get(int what) {
            return what >= 0 && what < values.length ? values[what] : 0;
        }

        int change(int what, int v) {
            if (what < 0 || what >= values.length || v < LEAST[what] || v > GREATEST[what]) {
                return NONE;
            }
            int was = values[what];
            values[what] = v;
            return was;
        }

        int heavy(int weight, int rain) {
            return weight * get(TWICE) * (10 + rain) / 10;
        }

        /** What the houses of the bits weigh together. */
        int weigh(Street street, int bits, int rain) {
            int sum = 0;
            for (int house = 0; house < HOUSES; house++) {
                if ((bits >> house & 1) != 0) {
                    sum += heavy(street.weightAt(house), rain);
                }
            }
            return sum;
        }

        /** How many bins of the bits are too heavy to be lifted. */
        int tooHeavy(Street street, int bits, int rain) {
            int found = 0;
            for (int house = 0; house < HOUSES; house++) {
                if ((bits >> house & 1) != 0 && heavy(street.weightAt(house), rain) > get(LIFT)) {
                    found++;
                }
            }
            return found;
        }
    }

    /** A street as its line tells it. */
    private static final class Street {
        private final int number;
        private final int[] weights = new int[HOUSES];
        private int place;
        private int blocks;
        private int slope;
        private boolean deadEnd;
        private int day;
        private int from = NONE;
        private int to = NONE;

        Street(int number) {
            this.number = number;
        }

        int weightAt(int house) {
            return house >= 0 && house < weights.length ? weights[house] : 0;
        }

        /** The houses that have a bin. */
        int bins() {
            int bits = 0;
            for (int house = 0; house < weights.length; house++) {
                if (weights[house] != 0) {
                    bits |= 1 << house;
                }
            }
            return bits;
        }

        boolean isBarred(int now) {
            int minute = now / MINUTE;
            return from >= 0 && minute >= from && minute <= to;
        }

        /** When a lorry that comes to the mouth may go in. */
        int openFrom(int now) {
            return isBarred(now) ? (to + 1) * MINUTE : now;
        }

        /** Reads one line of the text into this street; false where a sign can't stand. */
        boolean read(Text text) {
            if (!text.accept('s')) {
                return false;
            }
            place = text.number(2);
            if (place < 0 || !text.accept(':') || !readSides(text)) {
                return false;
            }
            deadEnd = text.accept('!');
            slope = text.accept('u') ? 1 : text.accept('d') ? -1 : 0;
            return readBarred(text);
        }

        private boolean readSides(Text text) {
            Arrays.fill(weights, 0);
            blocks = readSide(text, 0, BLOCKS);
            return blocks > 0 && text.accept('/') && readSide(text, BLOCKS, blocks) == blocks;
        }

        /** Reads at most so many weights for the houses from the first one on: how many there were. */
        private int readSide(Text text, int firstHouse, int mostDigits) {
            for (int i = 0; i < mostDigits; i++) {
                int weight = text.digitBelow(10);
                int house = firstHouse + i;
                if (weight < 0 || house < 0 || house >= weights.length) {
                    return i;
                }
                weights[house] = weight;
            }
            return mostDigits;
        }

        private boolean readBarred(Text text) {
            from = NONE;
            to = NONE;
            if (!text.accept('x')) {
                return true;
            }
            from = text.number(3);
            if (from < 0 || !text.accept('-')) {
                return false;
            }
            to = text.number(3);
            if (to < 0) {
                return false;
            }
            if (to < from) {
                text.stepBack();
                return false;
            }
            return true;
        }
    }

    /** The streets; those from size on are room for lines that are being read. */
    private static final class Town {
        private final Street[] streets = new Street[MOST_STREETS];
        private int size;

        Town() {
            for (int s = 0; s < streets.length; s++) {
                streets[s] = new Street(s);
            }
        }

        /** The street, or null if there is none such. */
        Street at(int s) {
            return s >= 0 && s < size && s < streets.length ? streets[s] : null;
        }

        int binsOf(int s) {
            Street street = at(s);
            return street == null ? 0 : street.bins();
        }

        /** Whether the bits tell no street that is not there. */
        boolean hasAll(int those) {
            return (those & -(1 << size)) == 0;
        }

        /** How many lines came, or where the text is wrong (then none comes). */
        int read(Text text) {
            text.begin(STREETS_SIGNS);
            if (text.isRead()) {
                return 0;
            }
            for (int s = size; s < streets.length; s++) {
                if (!streets[s].read(text)) {
                    return text.fault();
                }
                if (text.isRead()) {
                    int lines = s + 1 - size;
                    size = s + 1;
                    return lines;
                }
                if (!text.accept(';')) {
                    return text.fault();
                }
            }
            return text.fault();
        }

        /** Places the streets as a sheet of n entries tells: the sum of their places. */
        int placeAll(int kind, int n, int f, int step) {
            int sum = 0;
            for (int s = 0; s < size && s < streets.length; s++) {
                int entry = s < n ? entryOf(kind, f + s * step) : 0;
                streets[s].place = Math.max(0, Math.min(99, entry));
                sum += streets[s].place;
            }
            return sum;
        }

        private int entryOf(int kind, int value) {
            if (kind == SHEET_BYTES) {
                return (byte) value;
            }
            return kind == SHEET_SHORTS ? (short) value : value;
        }
    }

    /** What acts change and undo() brings back: the bins as bits of houses, and the lorry. */
    private static final class State {
        private final int[] out = new int[MOST_STREETS];
        private final int[] emptied = new int[MOST_STREETS];
        private final int[] left = new int[MOST_STREETS];
        private int load;
        private int place;
        private int now;

        void become(State other) {
            System.arraycopy(other.out, 0, out, 0, MOST_STREETS);
            System.arraycopy(other.emptied, 0, emptied, 0, MOST_STREETS);
            System.arraycopy(other.left, 0, left, 0, MOST_STREETS);
            load = other.load;
            place = other.place;
            now = other.now;
        }

        int outOf(int s) {
            return s >= 0 && s < out.length ? out[s] : 0;
        }

        /** These bins of a street are out, and no other one was touched. */
        void putOut(int s, int bits) {
            if (s >= 0 && s < MOST_STREETS) {
                out[s] = bits;
                emptied[s] = 0;
                left[s] = 0;
            }
        }

        int kindOf(int s, int house) {
            if (s < 0 || s >= MOST_STREETS) {
                return 0;
            }
            int bit = 1 << house;
            if ((out[s] & bit) != 0) {
                return OUT;
            }
            if ((emptied[s] & bit) != 0) {
                return EMPTIED;
            }
            return (left[s] & bit) != 0 ? LEFT : 0;
        }

        int countOf(int kind) {
            int[] bits = kind == OUT ? out : kind == EMPTIED ? emptied : left;
            int sum = 0;
            for (int s = 0; s < bits.length; s++) {
                sum += Integer.bitCount(bits[s]);
            }
            return sum;
        }

        /** The street was done as the job tells. */
        void record(int s, Job job) {
            if (s >= 0 && s < MOST_STREETS) {
                out[s] &= ~(job.emptiedBits | job.leftBits);
                emptied[s] |= job.emptiedBits;
                left[s] |= job.leftBits;
            }
            load += job.loaded;
            now += job.seconds();
        }
    }

    /** The states that undo() can bring back, the latest last. */
    private static final class History {
        private static final int MOST = 15;

        private final State[] states = new State[MOST];
        private final State before = new State();
        private int size;

        History() {
            for (int i = 0; i < states.length; i++) {
                states[i] = new State();
            }
        }

        /** Notes how it is ahead of an act that may yet be refused. */
        void note(State state) {
            before.become(state);
        }

        /** What was noted last can be brought back. */
        void push() {
            if (size >= MOST) {
                dropOldest();
            }
            if (size >= 0 && size < states.length) {
                states[size].become(before);
                size++;
            }
        }

        boolean back(State state) {
            if (size < 1 || size > states.length) {
                return false;
            }
            size--;
            state.become(states[size]);
            return true;
        }

        void clear() {
            size = 0;
        }

        private void dropOldest() {
            State oldest = states[0];
            for (int i = 1; i < states.length; i++) {
                states[i - 1] = states[i];
            }
            states[states.length - 1] = oldest;
            size = MOST - 1;
        }
    }

    /** How many seconds a bin takes: a rule, kept with its operators behind what they join. */
    private static final class Rule {
        private static final String THINGS = "wbsumrct";
        private static final int DEEPEST = 4;
        /** Codes from 0 on are numbers; things are FIRST_THING and below, operators lower still. */
        private static final int FIRST_THING = -1;
        private static final int NEGATE = -20;
        private static final int OPERATORS = -100;

        private int[] codes = new int[RULE_SIGNS];
        private int size;
        private int[] draft = new int[RULE_SIGNS];
        private int draftSize;
        private final int[] stack = new int[RULE_SIGNS];
        private int height;

        /** 0 if the text is the rule now, or where it is wrong. */
        int read(Text text) {
            text.begin(RULE_SIGNS);
            draftSize = 0;
            if (!text.isRead() && !(readComparison(text, 0) && text.isRead())) {
                return text.fault();
            }
            int[] spare = codes;
            codes = draft;
            size = draftSize;
            draft = spare;
            return 0;
        }

        private boolean readComparison(Text text, int depth) {
            if (!readSum(text, depth)) {
                return false;
            }
            int sign = text.look();
            if (sign != '<' && sign != '>' && sign != '=') {
                return true;
            }
            text.pass();
            return readSum(text, depth) && write(OPERATORS - sign);
        }

        private boolean readSum(Text text, int depth) {
            boolean fine = readProduct(text, depth);
            for (int i = 0; i < RULE_SIGNS && fine; i++) {
                int sign = text.look();
                if (sign != '+' && sign != '-') {
                    return true;
                }
                text.pass();
                fine = readProduct(text, depth) && write(OPERATORS - sign);
            }
            return fine;
        }

        private boolean readProduct(Text text, int depth) {
            boolean fine = readThing(text, depth);
            for (int i = 0; i < RULE_SIGNS && fine; i++) {
                int sign = text.look();
                if (sign != '*' && sign != '/') {
                    return true;
                }
                text.pass();
                fine = readThing(text, depth) && write(OPERATORS - sign);
            }
            return fine;
        }

        private boolean readThing(Text text, int depth) {
            boolean negative = false;
            for (int i = 0; i < RULE_SIGNS && text.accept('-'); i++) {
                negative = !negative;
            }
            int number = text.number(3);
            boolean fine;
            if (number >= 0) {
                fine = write(number);
            } else if (text.look() == '(' && depth < DEEPEST) {
                text.pass();
                fine = readComparison(text, depth + 1) && text.accept(')');
            } else {
                fine = readLetter(text);
            }
            return fine && (!negative || write(NEGATE));
        }

        private boolean readLetter(Text text) {
            int sign = text.look();
            int thing = sign < 0 ? NONE : THINGS.indexOf((char) sign);
            if (thing < 0) {
                return false;
            }
            text.pass();
            return write(FIRST_THING - thing);
        }

        private boolean write(int code) {
            if (draftSize >= draft.length) {
                return false;
            }
            draft[draftSize] = code;
            draftSize++;
            return true;
        }

        /** Seconds of a bin of which the facts tell its things, in the order of THINGS. */
        int seconds(int[] facts) {
            if (size == 0) {
                return clamped(8 + (facts.length > 0 ? facts[0] : 0));
            }
            height = 0;
            for (int i = 0; i < size && i < codes.length; i++) {
                int code = codes[i];
                if (code >= 0) {
                    push(code);
                } else if (code > NEGATE) {
                    int thing = FIRST_THING - code;
                    push(thing < facts.length ? facts[thing] : 0);
                } else if (code == NEGATE) {
                    push(-pop());
                } else {
                    int second = pop();
                    push(join(OPERATORS - code, pop(), second));
                }
            }
            return clamped(pop());
        }

        private void push(int value) {
            if (height < stack.length) {
                stack[height] = value;
                height++;
            }
        }

        private int pop() {
            if (height < 1 || height > stack.length) {
                return 0;
            }
            height--;
            return stack[height];
        }

        private static int join(int sign, int a, int b) {
            switch (sign) {
                case '<': return a < b ? 1 : 0;
                case '>': return a > b ? 1 : 0;
                case '=': return a == b ? 1 : 0;
                case '+': return a + b;
                case '-': return a - b;
                case '*': return a * b;
                default: return b == 0 ? 0 : a / b;
            }
        }

        private static int clamped(int value) {
            return Math.max(1, Math.min(999, value));
        }
    }

    /** A street's bins that are out, laid out in the order in which a how comes to them. */
    private static final class Job {
        private static final int FACTS = 8;

        private final Settings settings;
        private final Rule rule;
        private final int[] facts = new int[FACTS];
        private final int[] houses = new int[HOUSES];
        private final int[] heavies = new int[HOUSES];
        private final int[] takes = new int[HOUSES];
        private final int[] byHow = new int[HOWS];
        private int men = 1;
        private int slope;
        private int lift;
        private int size;
        private int moves;
        private int would;
        private int chosen;
        private int emptiedBits;
        private int leftBits;
        private int loaded;
        private int stay;
        private int hands;

        Job(Settings settings, Rule rule) {
            this.settings = settings;
            this.rule = rule;
        }

        /** From here on it is thought that there are so many men, and that the street goes so. */
        void think(int crew, int hillSlope) {
            men = Math.max(1, crew);
            slope = hillSlope;
        }

        /** Lays out the bins of the bits: which, how heavy, how many seconds each. */
        void lay(Street street, int how, int bits) {
            size = 0;
            would = 0;
            lift = settings.get(LIFT);
            for (int i = 0; i < HOUSES; i++) {
                int house = houseAt(street, how, i);
                if (house >= 0 && (bits >> house & 1) != 0 && size < HOUSES) {
                    int heavy = settings.heavy(street.weightAt(house), settings.get(RAIN));
                    int carried = how == CARRIED ? house % BLOCKS + 1 : 0;
                    int across = how == BOTH_AT_ONCE && house >= BLOCKS ? ACROSS : 0;
                    houses[size] = house;
                    heavies[size] = heavy;
                    takes[size] = heavy > lift ? LEAVING
                            : byHand(street, house, carried) + BLOCK_CARRIED * carried + across;
                    would += heavy > lift ? 0 : heavy;
                    size++;
                }
            }
            moves = movesOf(street, how);
        }

        /** The house to which the how comes as the i-th, or NONE behind the last. */
        private static int houseAt(Street street, int how, int i) {
            int last = 2 * street.blocks - 1;
            if (i > last) {
                return NONE;
            }
            if (how != ONE_SIDE_THEN_OTHER) {
                return i % 2 * BLOCKS + i / 2;
            }
            return i < street.blocks ? i : BLOCKS + last - i;
        }

        /** Seconds by the rule alone. */
        int byHand(Street street, int house, int carried) {
            facts[0] = settings.heavy(street.weightAt(house), settings.get(RAIN));
            facts[1] = house % BLOCKS;
            facts[2] = house / BLOCKS;
            facts[3] = slope;
            facts[4] = men;
            facts[5] = settings.get(RAIN);
            facts[6] = carried;
            facts[7] = street.number;
            return rule.seconds(facts);
        }

        private static int movesOf(Street street, int how) {
            if (how == ONE_SIDE_THEN_OTHER) {
                return (BLOCK_AHEAD + BLOCK_AHEAD) * street.blocks;
            }
            if (how == BOTH_AT_ONCE) {
                return (BLOCK_AHEAD + (street.deadEnd ? BLOCK_BACKED : 0)) * street.blocks;
            }
            return 0;
        }

        /** The bins laid out are done with such a load, till one does not fit. */
        void go(int load, int full) {
            emptiedBits = 0;
            leftBits = 0;
            loaded = 0;
            int sum = 0;
            int done = 0;
            for (int i = 0; i < size && i < houses.length; i++) {
                boolean tooHeavy = heavies[i] > lift;
                if (!tooHeavy && load + loaded + heavies[i] > full) {
                    break;
                }
                if (tooHeavy) {
                    leftBits |= 1 << houses[i];
                } else {
                    emptiedBits |= 1 << houses[i];
                    loaded += heavies[i];
                }
                sum += takes[i];
                done++;
            }
            stay = size - done;
            hands = men < 1 ? sum : (sum + men - 1) / men;
        }

        int seconds() {
            return hands + moves;
        }

        /** The how that takes the fewest seconds, by a lorry that is never full. */
        int chooseHow(Street street, int bits) {
            chosen = 0;
            for (int how = 0; how < byHow.length; how++) {
                lay(street, how, bits);
                go(0, WITHOUT_END);
                byHow[how] = seconds();
                if (byHow[how] < byHow[chosen]) {
                    chosen = how;
                }
            }
            return chosen;
        }

        int secondsOf(int how) {
            return how >= 0 && how < byHow.length ? byHow[how] : 0;
        }
    }

    /** Orders of streets, gone through in thought. */
    private static final class Orders {
        private final Town town;
        private final Settings settings;
        private final Job[] jobs = new Job[MOST_STREETS];
        private final int[] drawn = new int[MOST_STREETS];
        private final int[] path = new int[MOST_STREETS];
        private int pathSize;
        private int load;
        private int place;
        private int now;
        private int tips;
        private int stay;
        private final int[] soonestPath = new int[MOST_STREETS];
        private int soonestEnd;
        private int mostBits;
        private int searched;
        private int until;

        Orders(Town town, Settings settings, Rule rule) {
            this.town = town;
            this.settings = settings;
            for (int s = 0; s < jobs.length; s++) {
                jobs[s] = new Job(settings, rule);
            }
        }

        /** 0 if the text tells a path, or where it is wrong. */
        int readPath(Text text) {
            text.begin(MOST_SIGNS);
            pathSize = 0;
            int used = 0;
            for (int i = 0; i < path.length; i++) {
                int s = text.look() - '0';
                if (town.at(s) == null || (used >> s & 1) != 0) {
                    return text.fault();
                }
                text.pass();
                used |= 1 << s;
                path[i] = s;
                pathSize = i + 1;
                if (text.isRead()) {
                    return 0;
                }
            }
            return text.fault();
        }

        /** Lays out each street by its best how, its bins out as the bits tell. */
        void prepare(int[] out) {
            for (int s = 0; s < town.size && s < jobs.length && s < out.length; s++) {
                Street street = town.at(s);
                if (street != null) {
                    Job job = jobs[s];
                    job.think(settings.get(MEN), street.slope);
                    job.lay(street, job.chooseHow(street, out[s]), out[s]);
                }
            }
        }

        /** The path goes to all streets by their numbers. */
        void pathToAll() {
            pathSize = Math.min(town.size, path.length);
            for (int s = 0; s < pathSize; s++) {
                path[s] = s;
            }
        }

        void start(int withLoad, int atPlace, int atNow) {
            load = withLoad;
            place = atPlace;
            now = atNow;
            tips = 0;
            stay = 0;
        }

        /** Goes the path and tips at its end; false if the tip is shut. */
        boolean followPath() {
            for (int i = 0; i < pathSize && i < path.length; i++) {
                if (!visit(path[i])) {
                    return false;
                }
            }
            return goTip();
        }

        private boolean visit(int s) {
            Street street = town.at(s);
            if (street == null || s >= jobs.length) {
                return false;
            }
            Job job = jobs[s];
            if (load != 0 && load + job.would > settings.get(FULL) && !goTip()) {
                return false;
            }
            now = street.openFrom(now + driving(place, street.place));
            place = street.place;
            job.go(load, settings.get(FULL));
            load += job.loaded;
            now += job.seconds();
            stay += job.stay;
            return true;
        }

        private boolean goTip() {
            int there = now + driving(place, settings.get(TIP));
            if (there / MINUTE > settings.get(SHUT)) {
                return false;
            }
            now = there + TIPPING;
            place = settings.get(TIP);
            load = 0;
            tips++;
            return true;
        }

        /** Of all orders of the streets told: the soonest of all of them, the most of them by then. */
        void search(int those, int byNow) {
            searched = those;
            until = byNow;
            soonestEnd = NONE;
            mostBits = 0;
            explore(0, 0);
        }

        private void explore(int depth, int used) {
            judge(depth, used);
            if (depth >= path.length) {
                return;
            }
            int loadHere = load;
            int placeHere = place;
            int nowHere = now;
            for (int s = 0; s < town.size; s++) {
                if ((searched & ~used & 1 << s) != 0 && visit(s)) {
                    path[depth] = s;
                    explore(depth + 1, used | 1 << s);
                }
                load = loadHere;
                place = placeHere;
                now = nowHere;
            }
        }

        /** Orders come by their rows, the least first, so that an equal one never takes the place. */
        private void judge(int depth, int used) {
            int there = now + driving(place, settings.get(TIP));
            if (used == 0 || there / MINUTE > settings.get(SHUT)) {
                return;
            }
            int end = there + TIPPING;
            if (used == searched && (soonestEnd < 0 || end < soonestEnd)) {
                soonestEnd = end;
                System.arraycopy(path, 0, soonestPath, 0, Math.min(depth, path.length));
            }
            int more = Integer.bitCount(used) - Integer.bitCount(mostBits);
            if (end <= until && (more > 0 || more == 0 && used < mostBits)) {
                mostBits = used;
            }
        }

        int soonestAt(int i) {
            return i >= 0 && i < soonestPath.length ? soonestPath[i] : NONE;
        }
    }

    /** Seconds of streets and of days, and streets of a holiday on later days. */
    private static final class Days {
        private final Town town;
        private final int[] byStreet = new int[MOST_STREETS];
        private final int[] byDay = new int[WEEK_DAYS];
        private final int[] moved = new int[MOST_STREETS];
        private int movedCount;
        private final int[] tried = new int[MOST_STREETS];
        private final int[] found = new int[MOST_STREETS];
        private int foundSum;
        private int first;
        private int latest;
        private int mostSeconds;

        Days(Town town) {
            this.town = town;
        }

        void clear() {
            Arrays.fill(byStreet, 0);
            Arrays.fill(byDay, 0);
        }

        void put(Street street, int seconds) {
            if (street.number < byStreet.length && street.day >= 0 && street.day < byDay.length) {
                byStreet[street.number] = seconds;
                byDay[street.day] += seconds;
            }
        }

        int secondsOn(int day) {
            return day >= 0 && day < byDay.length ? byDay[day] : 0;
        }

        /** Seconds of the streets told as bits. */
        int secondsOf(int those) {
            int sum = 0;
            for (int s = 0; s < byStreet.length; s++) {
                if ((those >> s & 1) != 0) {
                    sum += byStreet[s];
                }
            }
            return sum;
        }

        /** The streets of that day are to be moved: how many. */
        int takeOff(int day) {
            movedCount = 0;
            for (int s = 0; s < town.size && s < moved.length; s++) {
                Street street = town.at(s);
                if (street != null && street.day == day && movedCount < moved.length) {
                    moved[movedCount] = s;
                    movedCount++;
                }
            }
            return movedCount;
        }

        /** Whether they can be moved to the days from first to latest; if so, found tells the best way. */
        boolean spread(int firstDay, int latestDay, int seconds) {
            first = firstDay;
            latest = latestDay;
            mostSeconds = seconds;
            foundSum = WITHOUT_END;
            spreadFrom(0, 0);
            return foundSum < WITHOUT_END;
        }

        /** Ways come by their rows, the least first, so that one must have a lesser sum to be better. */
        private void spreadFrom(int i, int sum) {
            if (sum + (movedCount - i) * first >= foundSum) {
                return;
            }
            if (i >= movedCount || i >= moved.length) {
                foundSum = sum;
                System.arraycopy(tried, 0, found, 0, tried.length);
                return;
            }
            int seconds = secondsOf(1 << moved[i]);
            for (int day = Math.max(0, first); day <= latest && day < byDay.length; day++) {
                if (byDay[day] + seconds <= mostSeconds) {
                    byDay[day] += seconds;
                    tried[i] = day;
                    spreadFrom(i + 1, sum + day);
                    byDay[day] -= seconds;
                }
            }
        }

        int foundAt(int i) {
            return i >= 0 && i < found.length ? found[i] : NONE;
        }
    }

    /** The loads that were weighed, and who may have put rubble in. */
    private static final class Loads {
        private static final int MOST = 10;
        private static final int LEAST_RUBBLE = 1;
        private static final int MOST_RUBBLE = 99;

        private final Town town;
        private final Settings settings;
        private final int[] those = new int[MOST];
        private final int[] weights = new int[MOST];
        private int size;
        private final int[] heavies = new int[MOST_STREETS];
        private final int[] excesses = new int[MOST];
        private final int[] pairs = new int[MOST_STREETS];
        private final int[] leastMore = new int[MOST_STREETS];
        private boolean rightWithout;

        Loads(Town town, Settings settings) {
            this.town = town;
            this.settings = settings;
        }

        boolean add(int streetBits, int weight) {
            if (size < 0 || size >= MOST) {
                return false;
            }
            those[size] = streetBits;
            weights[size] = weight;
            size++;
            return true;
        }

        /** Finds for each street the pairs, a house and what it has more, that explain all loads. */
        void study() {
            for (int s = 0; s < heavies.length; s++) {
                Street street = town.at(s);
                heavies[s] = street == null ? 0 : settings.weigh(street, street.bins(), settings.get(RAIN));
            }
            rightWithout = true;
            for (int i = 0; i < size && i < MOST; i++) {
                excesses[i] = weights[i] - heavyOf(those[i]);
                rightWithout = rightWithout && excesses[i] == 0;
            }
            for (int s = 0; s < pairs.length; s++) {
                pairs[s] = findPairs(s);
            }
        }

        private int heavyOf(int streetBits) {
            int sum = 0;
            for (int s = 0; s < heavies.length; s++) {
                if ((streetBits >> s & 1) != 0) {
                    sum += heavies[s];
                }
            }
            return sum;
        }

        /** All houses of a street are weighed together: each has as many pairs as any other. */
        private int findPairs(int s) {
            int least = LEAST_RUBBLE;
            int most = MOST_RUBBLE;
            for (int i = 0; i < size && i < MOST; i++) {
                if ((those[i] >> s & 1) != 0) {
                    least = Math.max(least, excesses[i]);
                    most = Math.min(most, excesses[i]);
                } else if (excesses[i] != 0) {
                    return 0;
                }
            }
            Street street = town.at(s);
            if (street == null || most < least || s >= leastMore.length) {
                return 0;
            }
            leastMore[s] = least;
            return 2 * street.blocks * (most - least + 1);
        }

        /** How many pairs the streets told as bits have. */
        int pairsIn(int streetBits) {
            int sum = 0;
            for (int s = 0; s < pairs.length; s++) {
                if ((streetBits >> s & 1) != 0) {
                    sum += pairs[s];
                }
            }
            return sum;
        }

        /** The least that a house of the street has more, where there are pairs. */
        int leastMoreOf(int s) {
            return s >= 0 && s < leastMore.length ? leastMore[s] : 0;
        }
    }
}
