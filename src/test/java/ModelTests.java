import java.util.ArrayList;
import java.util.List;
import java.util.NoSuchElementException;
import java.util.Random;
import java.util.function.LongSupplier;

/**
 * Drawn runs of all calls, each answer as the model of the document gives it. By hand with a seed and a number of runs
 * (java ModelTests 5 100000) for more than .ci/run takes time for.
 */
public final class ModelTests {
    private static final int CALLS = 512;
    /** The most calls that one step makes: a text of 80 signs in two parts, what reads it, the row. */
    private static final int MOST_OF_STEP = 36;

    private static final String[] RULES = {"", "w*2+b", "8+w+u*5", "20-m*3", "c*c+w", "t*5+s*9+r", "(w>5)*30+4", "5+c*9", "w*m+u*20+21",
        "-w/(b-1)*99", "1+((2<3)=1)*7", "99-c*30", "c*40+2*s", "w*9/m", "(c=0)*60+1", "40*(b=1)+r*r", "999*999*999*w", "w+u*40+50", "60-u*30/m"};

    private final Random random;
    private final String name;
    private final BinsBothSides x = new BinsBothSides();
    private final Model model = new Model();
    private final List<String> told = new ArrayList<>();
    private boolean alike = true;

    private ModelTests(int seed) {
        random = new Random(seed);
        name = "run " + seed;
    }

    public static void main(String[] args) {
        int seed = args.length > 0 ? Integer.parseInt(args[0]) : 1;
        int runs = args.length > 1 ? Integer.parseInt(args[1]) : 700;
        for (int i = 0; i < runs; i++) {
            new ModelTests(seed + i).run();
        }
        Check.end("ModelTests");
    }

    private void run() {
        if (draw(8) > 0) {
            lines(1 + draw(3));
        }
        while (alike && told.size() + MOST_OF_STEP <= CALLS) {
            step();
        }
    }

    private int draw(int n) {
        return random.nextInt(n);
    }

    private int between(int least, int most) {
        return least + draw(most - least + 1);
    }

    /** Mostly one that can be, at times one just beyond, at times any int. */
    private int number(int least, int most) {
        switch (draw(24)) {
            case 0: return least - 1;
            case 1: return most + 1;
            case 2: return random.nextInt();
            case 3: return least;
            case 4: return most;
            default: return between(least, most);
        }
    }

    private int street() {
        return draw(30) == 0 ? number(0, 5) : draw(Math.max(1, model.roads.size()));
    }

    private int those() {
        return draw(30) == 0 ? number(0, 63) : draw(1 << model.roads.size());
    }

    private static String answer(LongSupplier call) {
        try {
            return "" + call.getAsLong();
        } catch (NoSuchElementException e) {
            return "NoSuchElementException";
        } catch (RuntimeException e) {
            return e.toString();
        }
    }

    private void ask(String call, LongSupplier ofClass, LongSupplier ofModel) {
        String got = answer(ofClass);
        String due = answer(ofModel);
        told.add(call + " " + got);
        Check.due(name + ", call " + told.size() + ", " + call, got, due);
        if (!got.equals(due)) {
            alike = false;
            System.out.println(told);
        }
    }

    private void askTrue(String call, boolean got, boolean due) {
        ask(call, () -> got ? 1 : 0, () -> due ? 1 : 0);
    }

    private void row() {
        ask("count(9)", () -> x.count(9), () -> model.count(9));
        for (int i = 0; i < model.row.size(); i++) {
            int at = i;
            ask("row(" + at + ")", () -> x.row(at), () -> model.row(at));
        }
    }

    // ---- texts

    private void say(String signs) {
        askTrue("end(0)", x.end(0), model.end(0));
        for (int i = 0; i < signs.length(); i += 4) {
            int v = 0;
            for (int k = i; k < i + 4; k++) {
                v = v << 8 | (k < signs.length() ? signs.charAt(k) : draw(256));
            }
            int four = v;
            ask("sign(" + v + ")", () -> x.sign(four), () -> model.sign(four));
        }
        if (signs.length() % 4 != 0) {
            askTrue("end(" + signs.length() + ")", x.end(signs.length()), model.end(signs.length()));
        }
    }

    /** At times a sign less, another one, one more. */
    private String spoilt(String signs, String alphabet) {
        StringBuilder spoilt = new StringBuilder(signs);
        for (int i = draw(7) == 0 ? 1 + draw(2) : 0; i > 0; i--) {
            int at = draw(spoilt.length() + 1);
            char sign = alphabet.charAt(draw(alphabet.length()));
            if (draw(3) == 0) {
                spoilt.setLength(at);
            } else if (draw(2) == 0 && at < spoilt.length()) {
                spoilt.setCharAt(at, sign);
            } else {
                spoilt.insert(at, sign);
            }
        }
        return spoilt.length() > 80 ? spoilt.substring(0, 80) : spoilt.toString();
    }

    private String side(int blocks, int zeros) {
        StringBuilder side = new StringBuilder();
        for (int i = 0; i < blocks; i++) {
            side.append(draw(4) < zeros ? 0 : draw(10));
        }
        return side.toString();
    }

    private String line() {
        int blocks = draw(4) == 0 ? between(1, 8) : between(1, 3);
        int zeros = draw(4);
        int from = draw(5) == 0 ? draw(1000) : draw(30);
        return "s" + (draw(2) == 0 ? draw(100) : draw(4)) + ":" + side(blocks, zeros) + "/" + side(blocks, zeros)
            + (draw(2) == 0 ? "!" : "") + (draw(2) == 0 ? draw(2) == 0 ? "u" : "d" : "")
            + (draw(3) == 0 ? "x" + from + "-" + (draw(9) == 0 ? draw(1000) : Math.min(999, from + draw(20))) : "");
    }

    private void lines(int count) {
        StringBuilder lines = new StringBuilder();
        for (int i = 0; i < count; i++) {
            lines.append(i == 0 ? "" : ";").append(line());
        }
        say(spoilt(lines.toString(), "s0129:/!udx-; "));
        ask("streets()", x::streets, model::streets);
    }

    private void rules() {
        say(spoilt(RULES[draw(RULES.length)], "019wbsumrct()+-*/<>=( "));
        ask("rule()", x::rule, model::rule);
    }

    private void rounds() {
        StringBuilder acts = new StringBuilder();
        for (int i = draw(6); i > 0; i--) {
            String s = "" + Math.min(9, Math.abs(street()));
            String[] kinds = {"g" + s + ";e" + s + draw(3), "g" + s, "e" + s + draw(3), "t", "p" + draw(draw(2) == 0 ? 10000 : 60)};
            acts.append(kinds[draw(3) == 0 ? draw(5) : 0]).append(i > 1 ? ";" : "");
        }
        say(spoilt(acts.toString(), "g0129etp; 3"));
        ask("round()", x::round, model::round);
        row();
    }

    private void orders() {
        StringBuilder path = new StringBuilder();
        for (int i = 0; i < model.roads.size(); i++) {
            path.insert(draw(path.length() + 1), i);
        }
        path.setLength(draw(3) == 0 ? draw(path.length() + 1) : path.length());
        say(spoilt(path.toString(), "0123456/ "));
        ask("order()", x::order, model::order);
        row();
    }

    private void manySigns() {
        StringBuilder signs = new StringBuilder("s11:11111111/11111111!u;s11:11111111/11111111!u;s1:1/1".substring(draw(25)));
        while (signs.length() < 70) {
            signs.append(";").append(line());
        }
        signs.setLength(Math.min(signs.length(), between(74, 80)));
        say(spoilt(signs.toString(), "s0129:/!udx-; "));
        ask("streets()", x::streets, model::streets);
    }

    // ---- the other calls

    private void step() {
        switch (draw(13)) {
            case 0: texts(); break;
            case 1: case 2: town(); break;
            case 3: case 4: case 5: round(); break;
            case 6: oneStreet(); break;
            case 7: thought(); break;
            case 8: days(); break;
            case 9: rubble(); break;
            case 10: odds(); break;
            case 11: kept(); break;
            default: look(); break;
        }
    }

    private void texts() {
        switch (draw(8)) {
            case 0: case 1: rules(); break;
            case 2: case 3: case 4: rounds(); break;
            case 5: orders(); break;
            case 6: lines(1 + draw(2)); break;
            default: manySigns(); break;
        }
    }

    private void town() {
        int s = street();
        int what = number(0, 6);
        int[] most = {draw(2) == 0 ? 30 : 999, 4, 9, 2, draw(2) == 0 ? 20 : 99, 99, draw(4) == 0 ? 20 : 999};
        int v = number(what == 0 || what == 1 || what == 3 || what == 4 ? 1 : 0, what >= 0 && what < most.length ? most[what] : 5);
        int day = draw(2) == 0 ? draw(2) : number(0, 6);
        switch (draw(6)) {
            case 0: ask("dayOf(" + s + ", " + day + ")", () -> x.dayOf(s, day), () -> model.dayOf(s, day)); break;
            case 1: sheet(); break;
            default: ask("set(" + what + ", " + v + ")", () -> x.set(what, v), () -> model.set(what, v)); break;
        }
    }

    private void sheet() {
        int kind = number(0, 3);
        int n = number(0, 6);
        int f = draw(4) == 0 ? random.nextInt() : number(-10, 110);
        int step = draw(4) == 0 ? random.nextInt() : number(-40, 40);
        ask("sheet(" + kind + ", " + n + ", " + f + ", " + step + ")", () -> x.sheet(kind, n, f, step), () -> model.sheet(kind, n, f, step));
    }

    private void round() {
        int s = street();
        int how = number(0, 2);
        int n = draw(3) == 0 ? number(0, 9999) : draw(200);
        switch (draw(12)) {
            case 0: ask("drive(" + s + ")", () -> x.drive(s), () -> model.drive(s)); break;
            case 1: ask("tip()", x::tip, model::tip); break;
            case 2: ask("pause(" + n + ")", () -> x.pause(n), () -> model.pause(n)); break;
            case 3: ask("week()", x::week, model::week); break;
            case 4: case 5: ask("undo()", x::undo, model::undo); break;
            case 6: ask("empty(" + s + ", " + how + ")", () -> x.empty(s, how), () -> model.empty(s, how)); break;
            default:
                ask("drive(" + s + ")", () -> x.drive(s), () -> model.drive(s));
                ask("empty(" + s + ", " + how + ")", () -> x.empty(s, how), () -> model.empty(s, how));
                break;
        }
        if (draw(3) == 0) {
            row();
        }
    }

    private void oneStreet() {
        int s = street();
        int how = number(0, 2);
        int v = number(0, 9);
        switch (draw(6)) {
            case 0: ask("takes(" + s + ", " + how + ")", () -> x.takes(s, how), () -> model.takes(s, how)); break;
            case 1: ask("best(" + s + ")", () -> x.best(s), () -> model.best(s)); break;
            case 2: ask("less(" + s + ")", () -> x.less(s), () -> model.less(s)); break;
            case 3: ask("line(" + s + ")", () -> x.line(s), () -> model.line(s)); break;
            case 4: ask("hill(" + s + ")", () -> x.hill(s), () -> model.hill(s)); break;
            default: ask("wet(" + s + ", " + v + ")", () -> x.wet(s, v), () -> model.wet(s, v)); break;
        }
        row();
    }

    private void thought() {
        int s = street();
        int those = Integer.bitCount(those()) > 4 && draw(6) > 0 ? those() & 15 : those();
        int v = draw(4) == 0 ? number(0, 99999) : model.count(3) + draw(4000);
        switch (draw(6)) {
            case 0: ask("soonest(" + those + ")", () -> x.soonest(those), () -> model.soonest(those)); break;
            case 1: ask("most(" + those + ", " + v + ")", () -> x.most(those, v), () -> model.most(those, v)); break;
            case 2: orders(); return;
            default: ask("tipnow(" + s + ")", () -> x.tipnow(s), () -> model.tipnow(s)); break;
        }
        row();
    }

    private void days() {
        int those = those();
        int v = number(0, 6);
        int day = draw(3);
        int n = draw(4) == 0 ? number(0, 99999) : draw(draw(2) == 0 ? 100 : 500);
        switch (draw(4)) {
            case 0: ask("share(" + those + ")", () -> x.share(those), () -> model.share(those)); break;
            case 1: ask("holiday(" + v + ", " + n + ")", () -> x.holiday(v, n), () -> model.holiday(v, n)); break;
            case 2: ask("holiday(" + day + ", " + n + ")", () -> x.holiday(day, n), () -> model.holiday(day, n)); break;
            default: ask("busiest()", x::busiest, model::busiest); break;
        }
        row();
    }

    private void rubble() {
        int those = those();
        int v = draw(4) == 0 ? number(0, 9999) : weightOf(those) + draw(3) * draw(2) * 50;
        switch (draw(15)) {
            case 0: ask("forget()", x::forget, model::forget); break;
            case 1: case 2: case 3: case 4: case 5: case 6: ask("weighed(" + those + ", " + v + ")", () -> x.weighed(those, v), () -> model.weighed(those, v)); break;
            case 7: case 8: case 9: case 10: ask("rubble()", x::rubble, model::rubble); break;
            case 11: case 12: ask("whose()", x::whose, model::whose); break;
            default: ask("next()", x::next, model::next); break;
        }
        row();
    }

    private int weightOf(int those) {
        int sum = 0;
        for (int s = 0; s < model.roads.size(); s++) {
            for (int i = 0; i < 2 * model.roads.get(s).blocks(); i++) {
                sum += (those >> s & 1) == 0 ? 0 : model.bin(s, i % 2, i / 2, 1);
            }
        }
        return sum;
    }

    private void odds() {
        int s = street();
        int p = number(0, 10);
        int v = number(0, 100);
        int seed = draw(3) == 0 ? random.nextInt() : draw(10);
        int n = number(1, 20);
        switch (draw(3)) {
            case 0: ask("right(" + s + ", " + p + ")", () -> x.right(s, p), () -> model.right(s, p)); break;
            case 1: ask("care(" + s + ", " + v + ")", () -> x.care(s, v), () -> model.care(s, v)); break;
            default: ask("weeks(" + seed + ", " + n + ", " + p + ")", () -> x.weeks(seed, n, p), () -> model.weeks(seed, n, p)); break;
        }
        row();
    }

    private void kept() {
        int i = number(0, 2);
        int n = number(0, model.count(10));
        int v = random.nextInt();
        switch (draw(6)) {
            case 0: case 1: askTrue("keep(" + i + ")", x.keep(i), model.keep(i)); break;
            case 2: askTrue("end(" + n + ")", x.end(n), model.end(n)); break;
            case 3: ask("sign(" + v + ")", () -> x.sign(v), () -> model.sign(v)); break;
            default: askTrue("again(" + i + ")", x.again(i), model.again(i)); break;
        }
    }

    private void look() {
        int s = street();
        int what = number(0, 11);
        int of = number(0, 8);
        int side = number(0, 1);
        int block = number(0, 2);
        int fact = number(0, 3);
        ask("count(" + what + ")", () -> x.count(what), () -> model.count(what));
        ask("street(" + s + ", " + of + ")", () -> x.street(s, of), () -> model.street(s, of));
        ask("bin(" + s + ", " + side + ", " + block + ", " + fact + ")",
            () -> x.bin(s, side, block, fact), () -> model.bin(s, side, block, fact));
        ask("row(" + side + ")", () -> x.row(side), () -> model.row(side));
    }
}
