import java.math.BigInteger;
import java.util.ArrayList;
import java.util.List;
import java.util.Random;
import java.util.regex.Matcher;
import java.util.regex.Pattern;

/** Drawn towns (by fixed seeds): each dear call against its plainest form, made of the simpler calls. */
public final class CrossTests {
    private static final Random DRAW = new Random(20261118);

    public static void main(String[] args) {
        for (int i = 0; i < 300; i++) {
            town(i);
        }
        for (int i = 0; i < 4000; i++) {
            rules();
        }
        faults();
        Check.end("CrossTests");
    }

    private static int draw(int n) {
        return DRAW.nextInt(n);
    }

    /** A street: what its line tells. */
    private static final class Line {
        private int x = draw(100);
        private int[] weights;
        private int blocks = draw(4) == 0 ? 1 + draw(8) : 1 + draw(3);
        private boolean deadEnd = draw(2) == 0;
        private int hill = draw(3) - 1;
        private int from = -1;
        private int to = -1;

        Line() {
            weights = new int[2 * blocks];
            int full = 1 + draw(3);
            for (int i = 0; i < weights.length; i++) {
                weights[i] = draw(3) < full ? draw(10) : 0;
            }
            if (draw(3) == 0) {
                from = draw(30);
                to = from + draw(20);
            }
        }

        String text(int[] use, int slope) {
            StringBuilder text = new StringBuilder("s").append(x).append(':');
            for (int i = 0; i < use.length; i++) {
                text.append(i == blocks ? "/" : "").append(use[i]);
            }
            text.append(deadEnd ? "!" : "").append(slope > 0 ? "u" : slope < 0 ? "d" : "");
            if (from >= 0) {
                text.append('x').append(from).append('-').append(to);
            }
            return text.toString();
        }
    }

    private static final String[] RULES = {"", "w*2+b", "8+w+u*5", "20-m*3", "c*c+w", "t*5+s*9+r", "(w>5)*30+4", "1", "5+c*9", "w*m+u*20+21"};

    private static final int NO_STREET = -1;
    /** So many orders are asked of one object: with what it came about by that stays below its 512 calls. */
    private static final int ORDERS_OF_ONE = 40;

    private interface Act {
        int on(BinsBothSides x);
    }

    /** A town and what was done in it: an object answers 512 calls, so a fresh one in the same state is made for each check. */
    private static final class Drawn {
        private final int size = 1 + draw(6);
        private final Line[] lines = new Line[size];
        private final int[][] weights = new int[size][];
        private final String rule = RULES[draw(RULES.length)];
        private final int[] set = {1 + draw(120), 1 + draw(4), draw(10), 1 + draw(2), 1 + draw(34), draw(100), draw(5) == 0 ? draw(60) : 999};
        private final List<Act> acts = new ArrayList<>();

        Drawn() {
            for (int s = 0; s < size; s++) {
                lines[s] = new Line();
                weights[s] = lines[s].weights;
            }
        }

        BinsBothSides fresh() {
            BinsBothSides x = with(weights, NO_STREET);
            for (Act act : acts) {
                act.on(x);
            }
            return x;
        }

        /** The town with other weights, perhaps with one street that goes down; nothing was done in it. */
        BinsBothSides with(int[][] others, int down) {
            StringBuilder text = new StringBuilder();
            for (int s = 0; s < size; s++) {
                text.append(s == 0 ? "" : ";").append(lines[s].text(others[s], s == down ? -1 : lines[s].hill));
            }
            BinsBothSides x = Check.town(text.toString());
            Check.due("the rule", Check.rule(x, rule), 0);
            for (int what = 0; what < set.length; what++) {
                x.set(what, set[what]);
            }
            return x;
        }
    }

    private static void town(int number) {
        Drawn town = new Drawn();
        String name = "town " + number;
        for (int step = 0; step < 4; step++) {
            someActs(town);
            orders(name, town);
            oneStreet(name, town);
            days(name, town.fresh(), town.size);
            odds(name, town.fresh(), town.size);
        }
        weeksByHand(name, town);
        rubble(name, town.fresh(), town.size);
    }

    private static Act drawnAct(int size) {
        int s = draw(size);
        int n = draw(600);
        switch (draw(5)) {
            case 0: return x -> x.drive(s);
            case 1: return x -> x.empty(0, n % 3);
            case 2: return BinsBothSides::tip;
            case 3: return x -> x.pause(n);
            default: return BinsBothSides::week;
        }
    }

    private static void someActs(Drawn town) {
        for (int i = draw(6); i > 0; i--) {
            BinsBothSides x = town.fresh();
            if (draw(2) == 0) {
                Act there = y -> y.drive(0);
                there.on(x);
                town.acts.add(there);
            }
            String before = Check.state(x);
            int could = x.count(8);
            Act act = drawnAct(town.size);
            if (act.on(x) < 0) {
                Check.due("a refused act changes nothing", Check.state(x), before);
                Check.due("a refused act can't be undone", x.count(8), could);
            } else if (draw(2) == 0) {
                Check.due("what is left to undo", x.undo(), Math.min(15, could + 1) - 1);
                Check.due("undone", Check.state(x), before);
                Check.due("what could be undone", x.count(8), Math.min(14, could));
            } else {
                town.acts.add(act);
            }
        }
    }

    private static int get(BinsBothSides x, int what, int any) {
        int was = x.set(what, any);
        x.set(what, was);
        return was;
    }

    /** What a street would load. */
    private static int would(BinsBothSides x, int s) {
        int lift = get(x, 4, 1);
        int blocks = x.street(s, 1);
        int sum = 0;
        for (int house = 0; house < 2 * blocks; house++) {
            int heavy = x.bin(s, house % 2, house / 2, 1);
            sum += x.bin(s, house % 2, house / 2, 2) == 1 && heavy <= lift ? heavy : 0;
        }
        return sum;
    }

    /** SECONDS, how often it tipped, BINS that stay out; or -200: by driving, pausing, emptying, tipping. */
    private static long[] byActs(BinsBothSides x, String path) {
        int begun = x.count(3);
        int tips = 0;
        long[] none = {-200};
        for (int i = 0; i < path.length(); i++) {
            int s = path.charAt(i) - '0';
            int load = x.count(2);
            if (load != 0 && load + would(x, s) > x.count(11)) {
                if (x.tip() < 0) {
                    return none;
                }
                tips++;
            }
            x.drive(s);
            int how = x.best(s);
            if (x.empty(s, how) == -3) {
                int opens = (x.street(s, 6) + 1) * 60;
                for (int now = x.count(3); now < opens; now = x.count(3)) {
                    x.pause(Math.min(9999, opens - now));
                }
                Check.due("open now", x.empty(s, how) >= 0, true);
            }
        }
        int shut = x.tip();
        int out = 0;
        for (int i = 0; i < path.length(); i++) {
            out += x.street(path.charAt(i) - '0', 7);
        }
        long[] answer = {x.count(3) - begun, tips + 1, out};
        return shut < 0 ? none : answer;
    }

    private static void paths(String path, int those, List<String> found) {
        if (!path.isEmpty()) {
            found.add(path);
        }
        for (int s = 0; s < 6; s++) {
            if ((those >> s & 1) != 0) {
                paths(path + s, those & ~(1 << s), found);
            }
        }
    }

    private static int bits(String path) {
        int bits = 0;
        for (int i = 0; i < path.length(); i++) {
            bits |= 1 << path.charAt(i) - '0';
        }
        return bits;
    }

    private static void orders(String name, Drawn town) {
        int those = draw(1 << town.size);
        List<String> paths = new ArrayList<>();
        paths("", those, paths);
        BinsBothSides x = town.fresh();
        int bestAll = Integer.MAX_VALUE;
        String best = "";
        int now = x.count(3);
        int by = now + draw(6000);
        int most = 0;
        int mostBits = 0;
        for (int i = 0; i < paths.size(); i++) {
            String path = paths.get(i);
            x = i % ORDERS_OF_ONE == 0 ? town.fresh() : x;
            int seconds = Check.order(x, path);
            if (draw(paths.size()) < 10) {
                orderByActs(name, town, path);
            }
            int bits = bits(path);
            if (seconds >= 0 && bits == those && seconds < bestAll) {
                bestAll = seconds;
                best = path;
            }
            int count = path.length();
            if (seconds >= 0 && now + seconds <= by && (count > most || count == most && bits < mostBits)) {
                most = count;
                mostBits = bits;
            }
        }
        x = town.fresh();
        Check.due(name + ", most(" + those + ", " + by + ")", x.most(those, by), most);
        Check.due(name + ", row of most", Check.row(x), "" + mostBits);
        int soonest = x.soonest(those);
        Check.due(name + ", soonest(" + those + ")", soonest, those == 0 ? -1 : best.isEmpty() ? -2 : bestAll);
        if (soonest >= 0) {
            Check.due(name + ", row of soonest", Check.row(x).replace(" ", ""), best);
        }
    }

    private static void orderByActs(String name, Drawn town, String path) {
        long[] acts = byActs(town.fresh(), path);
        BinsBothSides x = town.fresh();
        Check.due(name + ", order " + path, Check.order(x, path), acts[0]);
        if (acts[0] >= 0) {
            Check.due(name + ", row of order " + path, Check.row(x), acts[1] + " " + acts[2]);
        }
    }

    private static int bestSeconds(BinsBothSides x, int s) {
        return Math.min(x.takes(s, 0), Math.min(x.takes(s, 1), x.takes(s, 2)));
    }

    /** The same street, of which just the nearest bins that are out have a weight, at most so many. */
    private static int[] outWeights(BinsBothSides x, Line line, int s, int mostBins) {
        int[] weights = new int[2 * line.blocks];
        int bins = 0;
        for (int house = 0; house < 2 * line.blocks && bins < mostBins; house++) {
            if (x.bin(s, house % 2, house / 2, 2) == 1) {
                weights[house % 2 * line.blocks + house / 2] = x.bin(s, house % 2, house / 2, 0);
                bins++;
            }
        }
        return weights;
    }

    private static int[][] blanks(Line[] lines) {
        int[][] weights = new int[lines.length][];
        for (int s = 0; s < lines.length; s++) {
            weights[s] = new int[2 * lines[s].blocks];
        }
        return weights;
    }

    private static void oneStreet(String name, Drawn town) {
        BinsBothSides x = town.fresh();
        int s = draw(town.size);
        int[][] weights = blanks(town.lines);
        weights[s] = outWeights(x, town.lines[s], s, 16);
        int now = bestSeconds(x, s);
        Check.due(name + ", hill(" + s + ")", x.hill(s), now - bestSeconds(town.with(weights, s), s));
        int men = get(x, 1, 1);
        if (men > 1) {
            x.set(1, men - 1);
            int fewer = bestSeconds(x, s);
            int how = x.best(s);
            x.set(1, men);
            Check.due(name + ", less(" + s + ")", x.less(s), fewer - now);
            Check.due(name + ", row of less", Check.row(x), "" + how);
        } else {
            Check.due(name + ", less(" + s + ")", x.less(s), -2);
        }
        wet(name, town.fresh(), s);
        line(name, town, s);
        tipnow(name, town.fresh(), s);
    }

    private static void wet(String name, BinsBothSides x, int s) {
        int rain = get(x, 2, 0);
        int v = draw(10);
        x.set(2, v);
        int weigh = x.street(s, 8);
        int fits = would(x, s);
        x.set(2, rain);
        Check.due(name + ", wet(" + s + ", " + v + ")", x.wet(s, v), weigh);
        Check.due(name + ", row of wet: any is LEFT", x.row(0) > 0, fits < weigh);
    }

    private static void line(String name, Drawn town, int s) {
        BinsBothSides x = town.fresh();
        int bins = x.street(s, 7);
        int[][] weights = blanks(town.lines);
        for (int more = 1; more <= bins; more++) {
            weights[s] = outWeights(town.fresh(), town.lines[s], s, more);
            BinsBothSides y = town.with(weights, NO_STREET);
            int driven = Math.min(y.takes(s, 0), y.takes(s, 1));
            if (y.takes(s, 2) > driven) {
                Check.due(name + ", line(" + s + ")", x.line(s), more - 1);
                Check.due(name + ", row of line", Check.row(x), driven + " " + y.takes(s, 2));
                return;
            }
        }
        Check.due(name + ", line(" + s + ")", x.line(s), bins);
        Check.due(name + ", row of line", Check.row(x), "-1 -1");
    }

    private static void tipnow(String name, BinsBothSides x, int s) {
        int tip = get(x, 5, 0);
        int full = x.count(11);
        int load = x.count(2);
        int would = would(x, s);
        int street = x.street(s, 0);
        int behind = bestSeconds(x, s) + 10 * Math.abs(street - tip) + 300;
        int now = 10 * Math.abs(x.count(1) - tip) + 300 + 10 * Math.abs(street - tip) + behind;
        int alone = 10 * Math.abs(x.count(1) - street) + behind;
        int want = would > full ? -2 : load + would > full ? 2 : load > 0 && now < alone ? 1 : 0;
        Check.due(name + ", tipnow(" + s + ")", x.tipnow(s), want);
        if (want >= 0) {
            Check.due(name + ", row of tipnow", Check.row(x), now + " " + (want == 2 ? -1 : alone));
        }
    }

    private static void days(String name, BinsBothSides x, int size) {
        int[] seconds = new int[size];
        int[] day = new int[size];
        int[] byDay = new int[7];
        for (int s = 0; s < size; s++) {
            x.dayOf(s, draw(3) == 0 ? draw(7) : draw(2));
            day[s] = x.street(s, 4);
            seconds[s] = bestSeconds(x, s);
            byDay[day[s]] += seconds[s];
        }
        int busy = 0;
        int idle = 0;
        for (int d = 1; d < 7; d++) {
            busy = byDay[d] > byDay[busy] ? d : busy;
            idle = byDay[d] < byDay[idle] ? d : idle;
        }
        Check.due(name + ", busiest()", x.busiest(), busy);
        Check.due(name + ", row of busiest", Check.row(x), byDay[busy] + " " + byDay[idle]);
        share(name, x, seconds);
        holiday(name, x, seconds, day, draw(4) == 0 ? draw(7) : draw(2), draw(400));
    }

    private static void share(String name, BinsBothSides x, int[] seconds) {
        int those = draw(1 << seconds.length);
        int least = Integer.MAX_VALUE;
        String row = "";
        for (int one = 0; one <= those; one++) {
            int[] sums = new int[2];
            for (int s = 0; s < seconds.length; s++) {
                if ((those >> s & 1) != 0) {
                    sums[one >> s & 1] += seconds[s];
                }
            }
            if ((one & ~those) == 0 && Math.max(sums[0], sums[1]) < least) {
                least = Math.max(sums[0], sums[1]);
                row = one + " " + Math.min(sums[0], sums[1]);
            }
        }
        Check.due(name + ", share(" + those + ")", x.share(those), least);
        Check.due(name + ", row of share", Check.row(x), row);
    }

    private static void holiday(String name, BinsBothSides x, int[] seconds, int[] day, int v, int n) {
        List<Integer> moved = new ArrayList<>();
        for (int s = 0; s < day.length; s++) {
            if (day[s] == v) {
                moved.add(s);
            }
        }
        int ways = 1;
        for (int i = 0; i < moved.size(); i++) {
            ways *= 7;
        }
        int[] best = null;
        for (int way = 0; way < ways; way++) {
            int[] to = new int[moved.size()];
            int rest = way;
            for (int i = to.length - 1; i >= 0; i--) {
                to[i] = rest % 7;
                rest /= 7;
            }
            if (canBe(seconds, day, moved, to, v, n) && (best == null || compare(to, best) < 0)) {
                best = to;
            }
        }
        int want = moved.isEmpty() ? 0 : best == null ? -2 : last(best) - v;
        Check.due(name + ", holiday(" + v + ", " + n + ")", x.holiday(v, n), want);
        if (want >= 0) {
            StringBuilder row = new StringBuilder();
            for (int i = 0; i < moved.size(); i++) {
                row.append(i == 0 ? "" : " ").append(best[i]);
            }
            Check.due(name + ", row of holiday", Check.row(x), row.toString());
        }
    }

    private static boolean canBe(int[] seconds, int[] day, List<Integer> moved, int[] to, int v, int n) {
        for (int d : to) {
            int sum = 0;
            for (int s = 0; s < day.length; s++) {
                sum += day[s] == d ? seconds[s] : 0;
            }
            for (int i = 0; i < to.length; i++) {
                sum += to[i] == d ? seconds[moved.get(i)] : 0;
            }
            if (d <= v || sum > n) {
                return false;
            }
        }
        return true;
    }

    private static int last(int[] days) {
        int last = 0;
        for (int d : days) {
            last = Math.max(last, d);
        }
        return last;
    }

    private static int compare(int[] a, int[] b) {
        int sums = 0;
        for (int i = 0; i < a.length; i++) {
            sums += a[i] - b[i];
        }
        if (last(a) != last(b)) {
            return last(a) - last(b);
        }
        for (int i = 0; i < a.length && sums == 0; i++) {
            if (a[i] != b[i]) {
                return a[i] - b[i];
            }
        }
        return sums;
    }

    private static void odds(String name, BinsBothSides x, int size) {
        int s = draw(size);
        int p = draw(11);
        int bins = x.street(s, 7);
        BigInteger upper = BigInteger.valueOf(p).pow(bins);
        BigInteger lower = BigInteger.TEN.pow(bins);
        BigInteger divisor = upper.gcd(lower);
        Check.due(name + ", right(" + s + ", " + p + ")", x.right(s, p), 0);
        Check.due(name + ", row of right", Check.row(x), upper.divide(divisor) + " " + lower.divide(divisor));
        int v = draw(101);
        int least = 0;
        while (BigInteger.valueOf(least).pow(bins).multiply(BigInteger.valueOf(100))
                .compareTo(lower.multiply(BigInteger.valueOf(v))) < 0) {
            least++;
        }
        Check.due(name + ", care(" + s + ", " + v + ")", x.care(s, v), least);
    }

    private static void weeksByHand(String name, Drawn town) {
        int seed = DRAW.nextInt();
        int p = draw(11);
        int n = 1 + draw(20);
        int chance = seed;
        int open = 0;
        int fewest = Integer.MAX_VALUE;
        int most = -1;
        for (int week = 0; week < n; week++) {
            int[][] weights = blanks(town.lines);
            StringBuilder path = new StringBuilder();
            for (int s = 0; s < town.size; s++) {
                path.append(s);
                for (int i = 0; i < weights[s].length; i++) {
                    if (town.weights[s][i] != 0) {
                        chance = chance * 1103515245 + 12345;
                        if ((chance & 0xffffffffL) / 65536 % 10 < p) {
                            weights[s][i] = town.weights[s][i];
                        }
                    }
                }
            }
            int seconds = Check.order(town.with(weights, NO_STREET), path.toString());
            if (seconds >= 0) {
                open++;
                fewest = Math.min(fewest, seconds);
                most = Math.max(most, seconds);
            }
        }
        BinsBothSides x = town.fresh();
        String before = Check.state(x);
        Check.due(name + ", weeks(" + seed + ", " + n + ", " + p + ")", x.weeks(seed, n, p), open);
        Check.due(name + ", row of weeks", Check.row(x), open == 0 ? "-1 -1" : fewest + " " + most);
        Check.due(name + ", weeks() changes nothing", Check.state(x), before);
    }

    /** HEAVY of all bins of each street. */
    private static int[] heavies(BinsBothSides x, int size) {
        int[] heavies = new int[size];
        for (int s = 0; s < size; s++) {
            int houses = 2 * x.street(s, 1);
            for (int i = 0; i < houses; i++) {
                heavies[s] += x.bin(s, i % 2, i / 2, 1);
            }
        }
        return heavies;
    }

    /** HEAVY of all bins of the streets, and d more if the house is of one of them. */
    private static int heavy(int[] heavies, int those, int s, int d) {
        int sum = (those >> s & 1) * d;
        for (int t = 0; t < heavies.length; t++) {
            sum += (those >> t & 1) * heavies[t];
        }
        return sum;
    }

    private static void rubble(String name, BinsBothSides x, int size) {
        int guilty = draw(size);
        int rubble = draw(6) == 0 ? 0 : draw(105);
        int[] heavies = heavies(x, size);
        List<int[]> loads = new ArrayList<>();
        for (int i = draw(5); i > 0; i--) {
            int those = draw(1 << size);
            int v = heavy(heavies, those, guilty, rubble) + (draw(12) == 0 ? 1 : 0);
            loads.add(new int[] {those, v});
            Check.due(name + ", weighed()", x.weighed(those, v), loads.size());
        }
        int[] pairs = new int[size];
        int all = 0;
        int streets = 0;
        String first = "";
        for (int s = 0; s < size; s++) {
            int houses = 2 * x.street(s, 1);
            for (int d = 1; d <= 99; d++) {
                if (explains(heavies, loads, s, d)) {
                    pairs[s] += houses;
                    all += houses;
                    streets |= 1 << s;
                    first = first.isEmpty() ? s + " 0 0 " + d : first;
                }
            }
        }
        Check.due(name + ", rubble()", x.rubble(), all);
        Check.due(name + ", row of rubble", Check.row(x), first);
        Check.due(name + ", whose()", x.whose(), streets);
        Check.due(name + ", row of whose", Check.row(x), explains(heavies, loads, 0, 0) ? "1" : "0");
        int least = Integer.MAX_VALUE;
        int best = -2;
        for (int set = 0; set < 1 << size && all > 0; set++) {
            int in = 0;
            for (int s = 0; s < size; s++) {
                in += (set >> s & 1) * pairs[s];
            }
            if (Math.max(in, all - in) < least) {
                least = Math.max(in, all - in);
                best = set;
            }
        }
        Check.due(name + ", next()", x.next(), best);
        if (all > 0) {
            Check.due(name + ", row of next", Check.row(x), "" + least);
        }
        Check.due(name + ", forget()", x.forget(), loads.size());
    }

    private static boolean explains(int[] heavies, List<int[]> loads, int s, int d) {
        for (int[] load : loads) {
            if (load[1] != heavy(heavies, load[0], s, d)) {
                return false;
            }
        }
        return true;
    }

    // ---- rules: drawn with what they come to

    private static int[] things;
    private static int value;

    private static String thing(int depth) {
        int kind = draw(depth < 4 ? 3 : 2);
        if (kind == 0) {
            value = draw(3) == 0 ? draw(1000) : draw(10);
            return "" + value;
        }
        if (kind == 1) {
            int i = draw(8);
            value = things[i];
            return "wbsumrct".substring(i, i + 1);
        }
        return "(" + comparison(depth + 1) + ")";
    }

    private static String signed(int depth) {
        if (draw(5) != 0) {
            return thing(depth);
        }
        String text = "-" + signed(depth);
        value = -value;
        return text;
    }

    private static String product(int depth) {
        String text = signed(depth);
        int left = value;
        while (draw(4) == 0) {
            boolean times = draw(2) == 0;
            text += (times ? "*" : "/") + signed(depth);
            left = times ? left * value : value == 0 ? 0 : left / value;
        }
        value = left;
        return text;
    }

    private static String sum(int depth) {
        String text = product(depth);
        int left = value;
        while (draw(3) == 0) {
            boolean plus = draw(2) == 0;
            text += (plus ? "+" : "-") + product(depth);
            left = plus ? left + value : left - value;
        }
        value = left;
        return text;
    }

    private static String comparison(int depth) {
        String text = sum(depth);
        if (draw(5) == 0) {
            int left = value;
            int kind = draw(3);
            text += "<>=".charAt(kind) + sum(depth);
            value = (kind == 0 ? left < value : kind == 1 ? left > value : left == value) ? 1 : 0;
        }
        return text;
    }

    private static void rules() {
        int block = draw(3);
        int side = draw(2);
        int rain = draw(10);
        int men = 1 + draw(4);
        int weight = draw(10);
        int heavy = weight * (10 + rain) / 10;
        int hill = draw(3) - 1;
        things = new int[] {heavy, block, side, hill, men, rain, 0, 1};
        String text = comparison(0);
        if (text.length() > 40) {
            return;
        }
        int want = Math.max(1, Math.min(999, value));
        StringBuilder houses = new StringBuilder("000/000");
        houses.setCharAt(side * 4 + block, (char) ('0' + weight));
        BinsBothSides x = Check.town("s0:0/0;s0:" + houses + (hill > 0 ? "u" : hill < 0 ? "d" : ""));
        x.set(2, rain);
        x.set(1, men);
        Check.due("rule " + text, Check.rule(x, text), 0);
        Check.due("seconds by rule " + text, x.bin(1, side, block, 3), want);
    }

    // ---- faults: where a sign can't stand, by regular expressions that tell whether more could come

    private static void faults() {
        StringBuilder sides = new StringBuilder();
        for (int n = 1; n <= 8; n++) {
            sides.append(n == 1 ? "" : "|").append("[0-9]{" + n + "}/[0-9]{" + n + "}");
        }
        String line = "s[0-9]{1,2}:(" + sides + ")!?[ud]?(x[0-9]{1,3}-[0-9]{1,3})?";
        // behind a sixth line ; can stand, but no sign of a seventh line
        Pattern streets = Pattern.compile(line + "(;" + line + "){0,5}(;\\u0100)?");
        String act = "(g[0-9]|e[0-9][0-2]|t|p[0-9]{1,4})";
        Pattern round = Pattern.compile(act + "(;" + act + ")*");
        String thing = "([0-9]{1,3}|[wbsumrct])";
        for (int depth = 0; depth <= 4; depth++) {
            String flat = "-*" + thing + "([-+*/]-*" + thing + ")*";
            thing = depth == 4 ? flat + "([<>=]" + flat + ")?"
                : "([0-9]{1,3}|[wbsumrct]|\\(" + flat + "([<>=]" + flat + ")?\\))";
        }
        Pattern rule = Pattern.compile(thing);
        String[] good = {"s1:12/34!ux1-2;s22:1/1x100-200", "s9:12345678/12345678;s8:0/9d;s7:11/22x0-0",
            "s11:11111111/11111111!u;s11:11111111/11111111!u;s11:11111111/11111111!x1-11",
            "s1:1/1;s1:1/1;s1:1/1;s1:1/1;s1:1/1;s1:1/1;s1:1/1"};
        for (int i = 0; i < 6000; i++) {
            fault(0, "streets", mutated(good, "s0129:/!udx-; "), streets, 76);
        }
        String[] acts = {"g0;e12;t;p99;p0", "p1234;p1;e00;g9;t", "t;t;t;t;t;t;t;t;t;t;t;t;t;t;t;t;t;t;t;t;t;t;t;t;t;t;t;t;t;p1"};
        for (int i = 0; i < 6000; i++) {
            fault(1, "round", mutated(acts, "g0129etp; 3"), round, 60);
        }
        String[] rules = {"1+w*(b-2)<c/3", "-(--1)*((r>2)+((s)))", "(((1+2)=3)*4)-m/u+t", "1+1+1+1+1+1+1+1+1+1+1+1+1+1+1+1+1+1+1+99"};
        for (int i = 0; i < 6000; i++) {
            fault(2, "rule", mutated(rules, "019wbsumrct()+-*/<>=( )"), rule, 40);
        }
    }

    private static String mutated(String[] good, String signs) {
        StringBuilder text = new StringBuilder(good[draw(good.length)]);
        for (int i = draw(4); i > 0; i--) {
            int at = draw(text.length() + 1);
            char sign = signs.charAt(draw(signs.length()));
            int kind = draw(4);
            if (kind == 0 && at < text.length()) {
                text.deleteCharAt(at);
            } else if (kind == 1 && at < text.length()) {
                text.setCharAt(at, sign);
            } else if (kind == 2) {
                text.insert(at, sign);
            } else {
                text.append(sign);
            }
        }
        text.setLength(Math.min(80, text.length()));
        return text.toString();
    }

    private static void fault(int kind, String name, String text, Pattern pattern, int limit) {
        BinsBothSides x = new BinsBothSides();
        Check.say(x, text);
        int got = kind == 0 ? x.streets() : kind == 1 ? x.round() : x.rule();
        String first = text.substring(0, Math.min(limit, text.length()));
        int want = text.length() > limit ? -1 - limit : 0;
        for (int end = 1; end <= first.length() && want == (text.length() > limit ? -1 - limit : 0); end++) {
            Matcher matcher = pattern.matcher(first.substring(0, end));
            if (!matcher.matches() && !matcher.hitEnd()) {
                want = -end;
            }
        }
        if (want == 0 && !first.isEmpty() && !pattern.matcher(first).matches()) {
            want = -1 - first.length();
        }
        if (kind == 0) {
            want = earlier(want, below(first));
        }
        Check.due(name + "() of " + text + (want < 0 ? "" : ", fine"), want < 0 ? got : Math.min(got, 0), want);
    }

    /** Where a number to is below from, or 0. */
    private static int below(String text) {
        Matcher matcher = Pattern.compile("x([0-9]{1,3})-([0-9]{1,3})").matcher(text);
        while (matcher.find()) {
            if (Integer.parseInt(matcher.group(2)) < Integer.parseInt(matcher.group(1))) {
                return -matcher.end();
            }
        }
        return 0;
    }

    private static int earlier(int a, int b) {
        return a == 0 ? b : b == 0 ? a : Math.max(a, b);
    }
}
