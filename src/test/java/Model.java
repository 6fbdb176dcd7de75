import java.math.BigInteger;
import java.util.ArrayDeque;
import java.util.ArrayList;
import java.util.Deque;
import java.util.List;
import java.util.NoSuchElementException;

/**
 * The document once more, written apart from the class and as plainly as it can be: texts sign by sign, houses one by
 * one, all orders and all ways tried from scratch. ModelTests holds the class against it.
 */
final class Model {
    private static final int NONE = -1;
    private static final int OUT = 1;
    private static final int EMPTIED = 2;
    private static final int LEFT = 3;

    static final class House {
        int weight;
        int kind;
    }

    static final class Road {
        int x;
        int hill;
        boolean deadEnd;
        int day;
        int from = NONE;
        int to = NONE;
        final List<House> left = new ArrayList<>();
        final List<House> right = new ArrayList<>();

        int blocks() {
            return left.size();
        }

        House house(int side, int block) {
            return (side == 0 ? left : right).get(block);
        }

        boolean barred(int now) {
            return from != NONE && from <= now / 60 && now / 60 <= to;
        }
    }

    /** What undo() and again() bring back. */
    private static final class Then {
        private final List<Integer> kinds = new ArrayList<>();
        private int load;
        private int x;
        private int now;
        private int roads;
    }

    /** What came of a street that was done, or would come. */
    private static final class Work {
        private final List<House> emptied = new ArrayList<>();
        private final List<House> left = new ArrayList<>();
        private int loaded;
        private int stay;
        private int hands;
        private int moves;

        int seconds() {
            return hands + moves;
        }
    }

    final List<Road> roads = new ArrayList<>();
    private final List<Integer> text = new ArrayList<>();
    private final List<int[]> loads = new ArrayList<>();
    private final Deque<Then> done = new ArrayDeque<>();
    private final Then[] kept = new Then[3];
    final List<Long> row = new ArrayList<>();
    private String rule = "";
    private int load;
    private int x;
    private int now;
    private int full = 100;
    private int men = 2;
    private int rain;
    private int twice = 1;
    private int lift = 30;
    private int tipX = 50;
    private int shut = 480;

    private void tell(long... numbers) {
        row.clear();
        for (long number : numbers) {
            row.add(number);
        }
    }

    private boolean none(int s) {
        return s < 0 || s >= roads.size();
    }

    private boolean noneOf(int those) {
        for (int bit = 0; bit < 32; bit++) {
            if ((those >>> bit & 1) == 1 && none(bit)) {
                return true;
            }
        }
        return false;
    }

    private static boolean has(int those, int s) {
        return (those >>> s & 1) == 1;
    }

    private int kindsOf(int kind) {
        int count = 0;
        for (Road road : roads) {
            for (int i = 0; i < 2 * road.blocks(); i++) {
                count += road.house(i % 2, i / 2).kind == kind ? 1 : 0;
            }
        }
        return count;
    }

    // ---- texts, sign by sign

    int sign(int v) {
        if (text.size() + 4 > 80) {
            return NONE;
        }
        text.add(v >>> 24);
        text.add(v >>> 16 & 255);
        text.add(v >>> 8 & 255);
        text.add(v & 255);
        return text.size();
    }

    boolean end(int n) {
        if (n < 0 || n > text.size()) {
            return false;
        }
        while (text.size() > n) {
            text.remove(text.size() - 1);
        }
        return true;
    }

    private String takeText() {
        StringBuilder signs = new StringBuilder();
        for (int sign : text) {
            signs.append((char) sign);
        }
        text.clear();
        return signs.toString();
    }

    private static boolean digit(char sign) {
        return sign >= '0' && sign <= '9';
    }

    /** What tells, sign by sign, whether it can stand, and whether all may end now. */
    private abstract static class Reader {
        /** How many signs back of the one that is given the fault is, if it can't stand. */
        int back;

        abstract boolean take(char sign);

        abstract boolean mayEnd();

        /** -1 - p, or 0. */
        int read(String all, int most) {
            String first = all.length() > most ? all.substring(0, most) : all;
            for (int p = 0; p < first.length(); p++) {
                if (!take(first.charAt(p))) {
                    return -1 - (p - back);
                }
            }
            boolean fine = mayEnd();
            if (!fine && back > 0) {
                return -1 - (first.length() - back);
            }
            return all.length() > most ? -1 - most : fine ? 0 : -1 - first.length();
        }
    }

    /** LINES: part tells what came last. */
    private static final class Lines extends Reader {
        private final List<Road> found = new ArrayList<>();
        private final int room;
        private Road road;
        private String part = ";";
        private String number = "";

        Lines(int room) {
            this.room = room;
        }

        private boolean go(String next) {
            part = next;
            number = "";
            return true;
        }

        private boolean digits(char sign, int most) {
            if (!digit(sign) || number.length() >= most) {
                return false;
            }
            number += sign;
            return true;
        }

        private boolean ahead(char sign) {
            return part.equals("/") ? road.right.size() == road.left.size() : "!udX".indexOf(part.charAt(0)) >= 0;
        }

        private static House house(char sign) {
            House house = new House();
            house.weight = sign - '0';
            house.kind = house.weight > 0 ? OUT : 0;
            return house;
        }

        @Override
        boolean take(char sign) {
            back = 0;
            switch (part) {
                case ";":
                    road = new Road();
                    return found.size() < room && sign == 's' && go("s");
                case "s":
                    if (sign == ':' && !number.isEmpty()) {
                        road.x = Integer.parseInt(number);
                        return go(":");
                    }
                    return digits(sign, 2);
                case ":":
                    if (sign == '/' && !road.left.isEmpty()) {
                        return go("/");
                    }
                    return digit(sign) && road.left.size() < 8 && road.left.add(house(sign));
                case "x":
                    if (sign == '-' && !number.isEmpty()) {
                        road.from = Integer.parseInt(number);
                        return go("-");
                    }
                    return digits(sign, 3);
                default:
                    return takeLate(sign);
            }
        }

        private boolean takeLate(char sign) {
            if (part.equals("/") && digit(sign)) {
                return road.right.size() < road.left.size() && road.right.add(house(sign));
            }
            if (part.equals("-")) {
                if (digits(sign, 3)) {
                    return true;
                }
                if (!toEnds()) {
                    return false;
                }
            }
            if (!ahead(sign)) {
                return false;
            }
            if (sign == ';') {
                found.add(road);
                return go(";");
            }
            if (part.equals("X")) {
                return false;
            }
            if (sign == 'x') {
                return go("x");
            }
            if ((sign == 'u' || sign == 'd') && (part.equals("/") || part.equals("!"))) {
                road.hill = sign == 'u' ? 1 : -1;
                return go("" + sign);
            }
            road.deadEnd = true;
            return sign == '!' && part.equals("/") && go("!");
        }

        /** The number to is at its end: false if that can't be, or if it is below from. */
        private boolean toEnds() {
            if (number.isEmpty()) {
                return false;
            }
            road.to = Integer.parseInt(number);
            if (road.to < road.from) {
                back = 1;
                return false;
            }
            return go("X");
        }

        @Override
        boolean mayEnd() {
            back = 0;
            if (part.equals("-") && !toEnds()) {
                return false;
            }
            if (part.equals(";") || part.equals("s") || part.equals(":") || part.equals("x") || part.equals("-") || !ahead('\0')) {
                return false;
            }
            found.add(road);
            return true;
        }
    }

    int streets() {
        String signs = takeText();
        if (signs.isEmpty()) {
            return 0;
        }
        Lines lines = new Lines(6 - roads.size());
        int fault = lines.read(signs, 76);
        if (fault < 0) {
            return fault;
        }
        roads.addAll(lines.found);
        done.clear();
        return lines.found.size();
    }

    /** A rule: whether a thing is due, and of each bracket that is open whether < > = came in it. */
    private static final class Things extends Reader {
        private boolean due = true;
        private int digits;
        private final Deque<Boolean> compared = new ArrayDeque<>(List.of(false));

        @Override
        boolean take(char sign) {
            boolean goesOn = digits > 0 && digits < 3;
            if (digit(sign)) {
                digits++;
                boolean fine = due || goesOn;
                due = false;
                return fine;
            }
            digits = 0;
            if (due) {
                if (sign == '(') {
                    compared.push(false);
                    return compared.size() <= 5;
                }
                due = sign == '-';
                return due || "wbsumrct".indexOf(sign) >= 0;
            }
            if (sign == ')') {
                compared.pop();
                return !compared.isEmpty();
            }
            due = true;
            if (sign == '<' || sign == '>' || sign == '=') {
                boolean first = !compared.pop();
                compared.push(true);
                return first;
            }
            return sign == '+' || sign == '-' || sign == '*' || sign == '/';
        }

        @Override
        boolean mayEnd() {
            return !due && compared.size() == 1;
        }
    }

    int rule() {
        String signs = takeText();
        int fault = signs.isEmpty() ? 0 : new Things().read(signs, 40);
        if (fault == 0) {
            rule = signs;
        }
        return fault;
    }

    /** Splits behind the last operator that binds least, outside of all brackets: what it comes to. */
    private static int worth(String expression, int[] things) {
        for (String operators : new String[] {"<>=", "+-", "*/"}) {
            int depth = 0;
            for (int i = expression.length() - 1; i > 0; i--) {
                char sign = expression.charAt(i);
                depth += sign == ')' ? 1 : sign == '(' ? -1 : 0;
                boolean joins = "<>=+-*/(".indexOf(expression.charAt(i - 1)) < 0;
                if (depth == 0 && joins && operators.indexOf(sign) >= 0) {
                    return join(sign, worth(expression.substring(0, i), things), worth(expression.substring(i + 1), things));
                }
            }
        }
        char first = expression.charAt(0);
        if (first == '-') {
            return -worth(expression.substring(1), things);
        }
        if (first == '(') {
            return worth(expression.substring(1, expression.length() - 1), things);
        }
        return digit(first) ? Integer.parseInt(expression) : things["wbsumrct".indexOf(first)];
    }

    private static int join(char sign, int a, int b) {
        return switch (sign) {
            case '<' -> a < b ? 1 : 0;
            case '>' -> a > b ? 1 : 0;
            case '=' -> a == b ? 1 : 0;
            case '+' -> a + b;
            case '-' -> a - b;
            case '*' -> a * b;
            default -> b == 0 ? 0 : a / b;
        };
    }

    /** ACTS: part holds the signs of the one that is told. */
    private static final class Acts extends Reader {
        private final List<String> found = new ArrayList<>();
        private String part = "";

        private boolean whole() {
            return part.matches("g.|e..|t|p.+");
        }

        @Override
        boolean take(char sign) {
            if (sign == ';' && whole()) {
                found.add(part);
                part = "";
                return true;
            }
            part += sign;
            return part.matches("g[0-9]?|e[0-9]?|e[0-9][0-2]|t|p[0-9]{0,4}");
        }

        @Override
        boolean mayEnd() {
            found.add(part);
            return whole();
        }
    }

    int round() {
        String signs = takeText();
        Acts acts = new Acts();
        int fault = signs.isEmpty() ? 0 : acts.read(signs, 60);
        if (fault < 0) {
            return fault;
        }
        Then then = then();
        int emptied = kindsOf(EMPTIED);
        int begun = now;
        int count = 0;
        boolean refused = false;
        for (String act : acts.found) {
            refused = act(act) < 0;
            if (refused) {
                break;
            }
            count++;
        }
        if (count > 0) {
            remember(then);
        }
        tell(refused ? 1 : 0, kindsOf(EMPTIED) - emptied, now - begun);
        return count;
    }

    private int act(String act) {
        return switch (act.charAt(0)) {
            case 'g' -> driveTo(act.charAt(1) - '0');
            case 'e' -> emptyThere(act.charAt(1) - '0', act.charAt(2) - '0');
            case 't' -> tipThere();
            default -> pass(Integer.parseInt(act.substring(1)));
        };
    }

    // ---- the town

    int street(int s, int what) {
        if (none(s) || what < 0 || what > 8) {
            throw new NoSuchElementException();
        }
        Road road = roads.get(s);
        int count = 0;
        int sum = 0;
        for (House house : bins(road)) {
            count++;
            sum += heavy(house.weight, rain);
        }
        return new int[] {road.x, road.blocks(), road.hill, road.deadEnd ? 1 : 0, road.day, road.from, road.to, count, sum}[what];
    }

    /** Those that are out, from the mouth on, of a block the left first. */
    private static List<House> bins(Road road) {
        List<House> out = new ArrayList<>();
        for (int block = 0; block < road.blocks(); block++) {
            for (int side = 0; side < 2; side++) {
                if (road.house(side, block).kind == OUT) {
                    out.add(road.house(side, block));
                }
            }
        }
        return out;
    }

    private int heavy(int weight, int inRain) {
        return weight * twice * (10 + inRain) / 10;
    }

    int bin(int s, int side, int block, int what) {
        if (none(s) || side < 0 || side > 1 || block < 0 || block >= roads.get(s).blocks() || what < 0 || what > 3) {
            throw new NoSuchElementException();
        }
        Road road = roads.get(s);
        House house = road.house(side, block);
        return switch (what) {
            case 0 -> house.weight;
            case 1 -> heavy(house.weight, rain);
            case 2 -> house.kind;
            default -> byRule(house, block, side, road.hill, men, 0, s);
        };
    }

    private int byRule(House house, int block, int side, int hill, int crew, int carried, int s) {
        int[] things = {heavy(house.weight, rain), block, side, hill, crew, rain, carried, s};
        return Math.min(999, Math.max(1, worth(rule.isEmpty() ? "8+w" : rule, things)));
    }

    int set(int what, int v) {
        int[] was = {full, men, rain, twice, lift, tipX, shut};
        int[] least = {Math.max(1, load), 1, 0, 1, 1, 0, 0};
        int[] most = {999, 4, 9, 2, 99, 99, 999};
        if (what < 0 || what > 6 || v < least[what] || v > most[what]) {
            return NONE;
        }
        full = what == 0 ? v : full;
        men = what == 1 ? v : men;
        rain = what == 2 ? v : rain;
        twice = what == 3 ? v : twice;
        lift = what == 4 ? v : lift;
        tipX = what == 5 ? v : tipX;
        shut = what == 6 ? v : shut;
        return was[what];
    }

    int dayOf(int s, int v) {
        if (none(s) || v < 0 || v > 6) {
            return NONE;
        }
        int was = roads.get(s).day;
        roads.get(s).day = v;
        return was;
    }

    int sheet(int kind, int n, int f, int step) {
        if (kind < 0 || kind > 3 || n > 6) {
            return NONE;
        }
        if (kind < 3 && n < 0) {
            return -2;
        }
        int sum = 0;
        for (int s = 0; s < roads.size(); s++) {
            int entry = f;
            for (int i = 0; i < s; i++) {
                entry += step;
            }
            entry = kind == 0 ? (byte) entry : kind == 1 ? (short) entry : entry;
            entry = kind == 3 || s >= n ? 0 : entry;
            roads.get(s).x = entry < 0 ? 0 : entry > 99 ? 99 : entry;
            sum += roads.get(s).x;
        }
        return kind == 3 ? -3 : sum;
    }

    // ---- the round

    private Then then() {
        Then then = new Then();
        for (Road road : roads) {
            for (int i = 0; i < 2 * road.blocks(); i++) {
                then.kinds.add(road.house(i % 2, i / 2).kind);
            }
        }
        then.load = load;
        then.x = x;
        then.now = now;
        then.roads = roads.size();
        return then;
    }

    private void back(Then then) {
        int next = 0;
        for (Road road : roads) {
            for (int i = 0; i < 2 * road.blocks(); i++) {
                road.house(i % 2, i / 2).kind = then.kinds.get(next++);
            }
        }
        load = then.load;
        x = then.x;
        now = then.now;
    }

    private void remember(Then then) {
        done.addLast(then);
        if (done.size() > 15) {
            done.removeFirst();
        }
    }

    private int answer(Then then, int answer) {
        if (answer >= 0) {
            remember(then);
        }
        return answer;
    }

    int drive(int s) {
        return answer(then(), driveTo(s));
    }

    private int driveTo(int s) {
        if (none(s)) {
            return NONE;
        }
        int seconds = 10 * Math.abs(roads.get(s).x - x);
        x = roads.get(s).x;
        now += seconds;
        return seconds;
    }

    int empty(int s, int how) {
        Then then = then();
        int emptied = kindsOf(EMPTIED);
        int left = kindsOf(LEFT);
        int had = load;
        int answer = answer(then, emptyThere(s, how));
        if (answer >= 0) {
            tell(kindsOf(EMPTIED) - emptied, kindsOf(LEFT) - left, load - had, bins(roads.get(s)).size());
        }
        return answer;
    }

    private int emptyThere(int s, int how) {
        if (none(s) || how < 0 || how > 2) {
            return NONE;
        }
        Road road = roads.get(s);
        if (road.x != x) {
            return -2;
        }
        if (road.barred(now)) {
            return -3;
        }
        Work work = work(s, how, bins(road), men, road.hill, load, full);
        work.emptied.forEach(house -> house.kind = EMPTIED);
        work.left.forEach(house -> house.kind = LEFT);
        load += work.loaded;
        now += work.seconds();
        return work.seconds();
    }

    /** The street done by a HOW, of its bins just those that are told. */
    private Work work(int s, int how, List<House> those, int crew, int hill, int had, int most) {
        Road road = roads.get(s);
        int blocks = road.blocks();
        Work work = new Work();
        boolean goesOn = true;
        int sum = 0;
        for (int i = 0; i < 2 * blocks; i++) {
            int side = how == 0 ? i / blocks : i % 2;
            int block = how != 0 ? i / 2 : side == 0 ? i : 2 * blocks - 1 - i;
            House house = road.house(side, block);
            if (!those.contains(house)) {
                continue;
            }
            int heavy = heavy(house.weight, rain);
            goesOn = goesOn && (heavy > lift || had + work.loaded + heavy <= most);
            if (!goesOn) {
                work.stay++;
            } else if (heavy > lift) {
                work.left.add(house);
                sum += 3;
            } else {
                work.emptied.add(house);
                work.loaded += heavy;
                int carried = how == 2 ? block + 1 : 0;
                sum += byRule(house, block, side, hill, crew, carried, s) + 4 * carried + (how == 1 && side == 1 ? 11 : 0);
            }
        }
        work.hands = sum / crew + (sum % crew > 0 ? 1 : 0);
        work.moves = how == 0 ? 10 * blocks : how == 2 ? 0 : 5 * blocks + (road.deadEnd ? 9 * blocks : 0);
        return work;
    }

    int tip() {
        int had = load;
        int answer = answer(then(), tipThere());
        if (answer >= 0) {
            tell(had);
        }
        return answer;
    }

    private int tipThere() {
        int there = 10 * Math.abs(tipX - x);
        if ((now + there) / 60 > shut) {
            return -2;
        }
        x = tipX;
        now += there + 300;
        load = 0;
        return there + 300;
    }

    int pause(int n) {
        return answer(then(), pass(n));
    }

    private int pass(int n) {
        if (n < 0 || n > 9999) {
            return NONE;
        }
        now += n;
        return now;
    }

    int week() {
        remember(then());
        for (Road road : roads) {
            for (int i = 0; i < 2 * road.blocks(); i++) {
                House house = road.house(i % 2, i / 2);
                house.kind = house.weight > 0 ? OUT : 0;
            }
        }
        load = 0;
        x = 0;
        now = 0;
        return kindsOf(OUT);
    }

    int undo() {
        if (done.isEmpty()) {
            return NONE;
        }
        back(done.removeLast());
        return done.size();
    }

    // ---- one street

    private Work thought(int s, int how, List<House> those, int crew, int hill) {
        return work(s, how, those, crew, hill, 0, Integer.MAX_VALUE);
    }

    private int[] byHow(int s, List<House> those, int crew, int hill) {
        int[] seconds = new int[3];
        for (int how = 0; how < 3; how++) {
            seconds[how] = thought(s, how, those, crew, hill).seconds();
        }
        return seconds;
    }

    private static int leastOf(int[] seconds) {
        int how = seconds[1] < seconds[0] ? 1 : 0;
        return seconds[2] < seconds[how] ? 2 : how;
    }

    private int quickest(int s, int crew, int hill) {
        int[] seconds = byHow(s, bins(roads.get(s)), crew, hill);
        return seconds[leastOf(seconds)];
    }

    private int quickest(int s) {
        return quickest(s, men, roads.get(s).hill);
    }

    int takes(int s, int how) {
        if (none(s) || how < 0 || how > 2) {
            return NONE;
        }
        Work work = thought(s, how, bins(roads.get(s)), men, roads.get(s).hill);
        tell(work.hands, work.moves);
        return work.seconds();
    }

    int best(int s) {
        if (none(s)) {
            return NONE;
        }
        int[] seconds = byHow(s, bins(roads.get(s)), men, roads.get(s).hill);
        tell(seconds[0], seconds[1], seconds[2]);
        return leastOf(seconds);
    }

    int less(int s) {
        if (none(s)) {
            return NONE;
        }
        if (men == 1) {
            return -2;
        }
        tell(leastOf(byHow(s, bins(roads.get(s)), men - 1, roads.get(s).hill)));
        return quickest(s, men - 1, roads.get(s).hill) - quickest(s);
    }

    int line(int s) {
        if (none(s)) {
            return NONE;
        }
        List<House> out = bins(roads.get(s));
        int may = 0;
        while (may < out.size()) {
            int[] seconds = byHow(s, out.subList(0, may + 1), men, roads.get(s).hill);
            if (seconds[2] > seconds[0] || seconds[2] > seconds[1]) {
                tell(Math.min(seconds[0], seconds[1]), seconds[2]);
                return may;
            }
            may++;
        }
        tell(NONE, NONE);
        return may;
    }

    int hill(int s) {
        if (none(s)) {
            throw new NoSuchElementException();
        }
        return quickest(s) - quickest(s, men, -1);
    }

    int wet(int s, int v) {
        if (none(s) || v < 0 || v > 9) {
            return NONE;
        }
        int sum = 0;
        int left = 0;
        for (House house : bins(roads.get(s))) {
            sum += heavy(house.weight, v);
            left += heavy(house.weight, v) > lift ? 1 : 0;
        }
        tell(left);
        return sum;
    }

    private int would(int s) {
        int sum = 0;
        for (House house : bins(roads.get(s))) {
            sum += heavy(house.weight, rain) > lift ? 0 : heavy(house.weight, rain);
        }
        return sum;
    }

    // ---- orders

    /** SECONDS, how often it tipped, BINS that stay out; or null if TIP is shut. */
    private int[] follow(String path, int withLoad, int fromX, int atNow) {
        int had = withLoad;
        int at = fromX;
        int time = atNow;
        int tips = 0;
        int stay = 0;
        for (int i = 0; i <= path.length(); i++) {
            boolean last = i == path.length();
            int s = last ? NONE : path.charAt(i) - '0';
            if (last || had != 0 && had + would(s) > full) {
                time += 10 * Math.abs(at - tipX);
                if (time / 60 > shut) {
                    return null;
                }
                time += 300;
                at = tipX;
                had = 0;
                tips++;
            }
            if (!last) {
                Road road = roads.get(s);
                time += 10 * Math.abs(at - road.x);
                at = road.x;
                while (road.barred(time)) {
                    time = (time / 60 + 1) * 60;
                }
                int how = leastOf(byHow(s, bins(road), men, road.hill));
                Work work = work(s, how, bins(road), men, road.hill, had, full);
                had += work.loaded;
                time += work.seconds();
                stay += work.stay;
            }
        }
        return new int[] {time - atNow, tips, stay};
    }

    int order() {
        String path = takeText();
        for (int p = 0; p < path.length(); p++) {
            char sign = path.charAt(p);
            if (p == 6 || !digit(sign) || none(sign - '0') || path.indexOf(sign) < p) {
                return -1 - p;
            }
        }
        if (path.isEmpty()) {
            return -1;
        }
        int[] came = follow(path, load, x, now);
        if (came == null) {
            return -200;
        }
        tell(came[1], came[2]);
        return came[0];
    }

    private static void paths(String path, int those, List<String> found) {
        found.add(path);
        for (int s = 0; s < 6; s++) {
            if (has(those, s)) {
                paths(path + s, those & ~(1 << s), found);
            }
        }
    }

    int soonest(int those) {
        if (noneOf(those) || those == 0) {
            return NONE;
        }
        List<String> found = new ArrayList<>();
        paths("", those, found);
        String best = "";
        int least = -2;
        for (String path : found) {
            int[] came = path.length() == Integer.bitCount(those) ? follow(path, load, x, now) : null;
            if (came != null && (least == -2 || came[0] < least || came[0] == least && path.compareTo(best) < 0)) {
                least = came[0];
                best = path;
            }
        }
        if (least >= 0) {
            tell(best.chars().mapToLong(sign -> sign - '0').toArray());
        }
        return least;
    }

    int most(int those, int v) {
        if (noneOf(those) || v < 0 || v > 99999) {
            return NONE;
        }
        List<String> found = new ArrayList<>();
        paths("", those, found);
        int most = 0;
        int least = 0;
        for (String path : found) {
            int[] came = path.length() < Math.max(1, most) ? null : follow(path, load, x, now);
            if (came != null && now + came[0] <= v) {
                int bits = 0;
                for (int i = 0; i < path.length(); i++) {
                    bits += 1 << path.charAt(i) - '0';
                }
                least = path.length() > most ? bits : Math.min(least, bits);
                most = path.length();
            }
        }
        tell(least);
        return most;
    }

    int tipnow(int s) {
        if (none(s)) {
            return NONE;
        }
        int would = would(s);
        if (would > full) {
            return -2;
        }
        int road = roads.get(s).x;
        int there = 10 * Math.abs(road - tipX);
        int first = 10 * Math.abs(x - tipX) + 300 + there + quickest(s) + there + 300;
        int behind = 10 * Math.abs(x - road) + quickest(s) + there + 300;
        boolean fits = load + would <= full;
        tell(first, fits ? behind : NONE);
        return !fits ? 2 : first < behind && load > 0 ? 1 : 0;
    }

    // ---- crews, days

    int share(int those) {
        if (noneOf(those)) {
            return NONE;
        }
        int least = Integer.MAX_VALUE;
        for (int one = 0; one < 64; one++) {
            int[] sums = new int[2];
            for (int s = 0; s < roads.size(); s++) {
                sums[has(one, s) ? 0 : 1] += has(those, s) ? quickest(s) : 0;
            }
            if ((one & those) == one && Math.max(sums[0], sums[1]) < least) {
                least = Math.max(sums[0], sums[1]);
                tell(one, Math.min(sums[0], sums[1]));
            }
        }
        return least;
    }

    int holiday(int v, int n) {
        if (v < 0 || v > 6 || n < 0 || n > 99999) {
            return NONE;
        }
        List<Integer> moved = new ArrayList<>();
        int[] taken = new int[7];
        for (int s = 0; s < roads.size(); s++) {
            if (roads.get(s).day == v) {
                moved.add(s);
            } else {
                taken[roads.get(s).day] += quickest(s);
            }
        }
        List<Integer> seconds = new ArrayList<>();
        moved.forEach(s -> seconds.add(quickest(s)));
        List<String> ways = new ArrayList<>();
        ways("", moved.size(), v + 1, ways);
        String best = "";
        for (String way : ways) {
            if (canBe(way, seconds, taken, n) && (best.isEmpty() || better(way, best))) {
                best = way;
            }
        }
        if (best.isEmpty() && !moved.isEmpty()) {
            return -2;
        }
        tell(best.chars().mapToLong(sign -> sign - '0').toArray());
        return moved.isEmpty() ? 0 : best.chars().max().getAsInt() - '0' - v;
    }

    private static void ways(String way, int size, int first, List<String> found) {
        if (way.length() == size) {
            found.add(way);
            return;
        }
        for (int day = first; day <= 6; day++) {
            ways(way + day, size, first, found);
        }
    }

    private static boolean canBe(String way, List<Integer> seconds, int[] taken, int n) {
        int[] all = taken.clone();
        for (int i = 0; i < way.length(); i++) {
            all[way.charAt(i) - '0'] += seconds.get(i);
        }
        return way.chars().allMatch(sign -> all[sign - '0'] <= n);
    }

    private static boolean better(String a, String b) {
        int latest = a.chars().max().getAsInt() - b.chars().max().getAsInt();
        int sums = a.chars().sum() - b.chars().sum();
        return latest != 0 ? latest < 0 : sums != 0 ? sums < 0 : a.compareTo(b) < 0;
    }

    int busiest() {
        int[] seconds = new int[7];
        for (int s = 0; s < roads.size(); s++) {
            seconds[roads.get(s).day] += quickest(s);
        }
        int busy = 0;
        int fewest = Integer.MAX_VALUE;
        for (int day = 0; day < 7; day++) {
            busy = seconds[day] > seconds[busy] ? day : busy;
            fewest = Math.min(fewest, seconds[day]);
        }
        tell(seconds[busy], fewest);
        return busy;
    }

    // ---- rubble

    int weighed(int those, int v) {
        if (noneOf(those) || v < 0 || v > 9999 || loads.size() == 10) {
            return NONE;
        }
        loads.add(new int[] {those, v});
        return loads.size();
    }

    int forget() {
        int was = loads.size();
        loads.clear();
        return was;
    }

    /** Whether all that was weighed is so, if what is in a street's load has so much more in it. */
    private boolean explains(int guilty, int d) {
        for (int[] one : loads) {
            int sum = has(one[0], guilty) ? d : 0;
            for (int s = 0; s < roads.size(); s++) {
                for (int i = 0; i < 2 * roads.get(s).blocks(); i++) {
                    sum += has(one[0], s) ? heavy(roads.get(s).house(i % 2, i / 2).weight, rain) : 0;
                }
            }
            if (sum != one[1]) {
                return false;
            }
        }
        return true;
    }

    /** STREET, side, block, d of each pair, the least row first. */
    private List<long[]> pairs() {
        List<long[]> pairs = new ArrayList<>();
        for (int s = 0; s < roads.size(); s++) {
            List<Integer> more = new ArrayList<>();
            for (int d = 1; d <= 99; d++) {
                if (explains(s, d)) {
                    more.add(d);
                }
            }
            for (int side = 0; side < 2; side++) {
                for (int block = 0; block < roads.get(s).blocks(); block++) {
                    for (int d : more) {
                        pairs.add(new long[] {s, side, block, d});
                    }
                }
            }
        }
        return pairs;
    }

    int rubble() {
        List<long[]> pairs = pairs();
        tell(pairs.isEmpty() ? new long[0] : pairs.get(0));
        return pairs.size();
    }

    int whose() {
        int bits = 0;
        for (long[] pair : pairs()) {
            bits |= 1 << pair[0];
        }
        tell(explains(0, 0) ? 1 : 0);
        return bits;
    }

    int next() {
        List<long[]> pairs = pairs();
        if (pairs.isEmpty()) {
            return -2;
        }
        int best = 0;
        int least = Integer.MAX_VALUE;
        for (int set = 0; set < 1 << roads.size(); set++) {
            int in = 0;
            for (long[] pair : pairs) {
                in += has(set, (int) pair[0]) ? 1 : 0;
            }
            int most = Math.max(in, pairs.size() - in);
            best = most < least ? set : best;
            least = Math.min(most, least);
        }
        tell(least);
        return best;
    }

    // ---- odds, weeks

    int right(int s, int p) {
        if (none(s) || p < 0 || p > 10) {
            return NONE;
        }
        long upper = 1;
        long lower = 1;
        for (int i = bins(roads.get(s)).size(); i > 0; i--) {
            upper *= p;
            lower *= 10;
        }
        for (int factor : new int[] {2, 5}) {
            while (upper % factor == 0 && lower % factor == 0) {
                upper /= factor;
                lower /= factor;
            }
        }
        tell(upper, lower);
        return 0;
    }

    int care(int s, int v) {
        if (none(s) || v < 0 || v > 100) {
            return NONE;
        }
        int bins = bins(roads.get(s)).size();
        BigInteger due = BigInteger.TEN.pow(bins).multiply(BigInteger.valueOf(v));
        int p = 0;
        while (BigInteger.valueOf(p).pow(bins).multiply(BigInteger.valueOf(100)).compareTo(due) < 0) {
            p++;
        }
        return p;
    }

    int weeks(int seed, int n, int p) {
        if (roads.isEmpty() || n < 1 || n > 20 || p < 0 || p > 10) {
            return NONE;
        }
        Then then = then();
        int drawn = seed;
        int open = 0;
        int fewest = Integer.MAX_VALUE;
        int most = NONE;
        for (int week = 0; week < n; week++) {
            for (Road road : roads) {
                for (int i = 0; i < 2 * road.blocks(); i++) {
                    House house = road.house(i / road.blocks(), i % road.blocks());
                    if (house.weight > 0) {
                        drawn = drawn * 1103515245 + 12345;
                        house.kind = (drawn & 0xffffffffL) / 65536 % 10 < p ? OUT : 0;
                    }
                }
            }
            int[] came = follow("012345".substring(0, roads.size()), 0, 0, 0);
            if (came != null) {
                open++;
                fewest = Math.min(fewest, came[0]);
                most = Math.max(most, came[0]);
            }
        }
        back(then);
        tell(open == 0 ? NONE : fewest, most);
        return open;
    }

    // ---- kept

    boolean keep(int i) {
        if (i < 0 || i > 2) {
            return false;
        }
        kept[i] = then();
        return true;
    }

    boolean again(int i) {
        if (i < 0 || i > 2 || kept[i] == null || kept[i].roads != roads.size() || full < kept[i].load) {
            return false;
        }
        back(kept[i]);
        done.clear();
        return true;
    }

    int count(int what) {
        int[] counts = {roads.size(), x, load, now, kindsOf(OUT), kindsOf(EMPTIED), kindsOf(LEFT), loads.size(), done.size(),
            row.size(), text.size(), full};
        return what < 0 || what >= counts.length ? -100 : counts[what];
    }

    long row(int i) {
        if (i < 0 || i >= row.size()) {
            throw new NoSuchElementException();
        }
        return row.get(i);
    }
}
