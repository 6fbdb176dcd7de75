import java.util.NoSuchElementException;

/**
 * Refused calls change nothing but the text, if they read it, and leave the row; calls that are told to change nothing
 * change the row alone. Each is made on one of two objects that came about by the same calls; then all that can be asked
 * is asked of both, the last by calls that change them.
 */
public final class RefusedTests {
    private static final int MIN = Integer.MIN_VALUE;
    private static final int MAX = Integer.MAX_VALUE;

    private interface On {
        long of(BinsBothSides x);
    }

    public static void main(String[] args) {
        theTown();
        theRound();
        theRoundInSomeStates();
        oneStreet();
        ordersAndDays();
        rubbleAndOdds();
        kept();
        readText();
        inThought();
        Check.end("RefusedTests");
    }

    /** Some of everything: bins out, EMPTIED, LEFT; a load, a rule, days, what was weighed, kept, can be undone, a row. */
    private static BinsBothSides busy() {
        BinsBothSides x = Check.town("s0:159/200!u;s7:34/00x0-1;s7:00/09d");
        Check.rule(x, "9+w*2+c-u+m+s*b");
        x.set(0, 20);
        x.set(1, 3);
        x.set(2, 2);
        x.set(3, 2);
        x.set(4, 19);
        x.set(5, 40);
        x.set(6, 400);
        x.dayOf(1, 3);
        x.weighed(3, 70);
        x.weighed(0, 0);
        x.keep(2);
        Check.round(x, "p120;e01;g1;e10");
        x.keep(0);
        x.drive(0);
        x.best(0);
        return x;
    }

    /** All that can be asked; the calls at its end change the object. */
    private static String all(BinsBothSides x) {
        StringBuilder all = new StringBuilder(Check.state(x)).append(" row ").append(Check.row(x));
        for (int what = 0; what <= 11; what++) {
            all.append(what == 10 ? "" : " " + x.count(what));
        }
        for (int s = 0; s < x.count(0); s++) {
            for (int what = 0; what <= 8; what++) {
                all.append(' ').append(x.street(s, what));
            }
            all.append(' ').append(x.bin(s, 1, 0, 0)).append(' ').append(x.bin(s, 1, 0, 1)).append(' ').append(x.bin(s, 1, 0, 3));
            all.append(' ').append(x.takes(s, 0)).append(' ').append(x.takes(s, 2)).append(' ').append(x.wet(s, 9));
        }
        all.append(" rubble ").append(x.rubble()).append(' ').append(Check.row(x));
        all.append(" whose ").append(x.whose()).append(' ').append(Check.row(x));
        all.append(" set");
        for (int what = 0; what <= 6; what++) {
            int was = x.set(what, what == 0 ? 999 : 1);
            x.set(what, was);
            all.append(' ').append(was);
        }
        for (int i = 0; i < 3; i++) {
            all.append(" undo ").append(x.undo()).append(' ').append(Check.state(x));
        }
        for (int i = 0; i <= 2; i++) {
            all.append(" again ").append(x.again(i)).append(' ').append(Check.state(x));
        }
        return all.toString();
    }

    private static long answer(BinsBothSides x, On call) {
        try {
            return call.of(x);
        } catch (NoSuchElementException e) {
            return Long.MIN_VALUE;
        }
    }

    /** The call answers so, and leaves all as it is; the text, too. */
    private static void refused(String what, long due, On busied, On call) {
        BinsBothSides x = busy();
        BinsBothSides twin = busy();
        busied.of(x);
        busied.of(twin);
        Check.say(x, "t;g");
        Check.due(what, answer(x, call), due);
        Check.due(what + ": the text", x.count(10), 3);
        Check.due(what + ": it still tells the same", x.round(), -4);
        Check.due(what + " changes nothing", all(x), all(twin));
    }

    private static void refused(String what, On call) {
        refused(what, -1, x -> 0, call);
    }

    private static void throwsIt(String what, On call) {
        refused(what, Long.MIN_VALUE, x -> 0, call);
    }

    private static void theTown() {
        refused("end(-1)", 0, x -> 0, x -> x.end(-1) ? 1 : 0);
        refused("end(4)", 0, x -> 0, x -> x.end(4) ? 1 : 0);
        for (int s : new int[] {-1, 3, 6, MIN, MAX}) {
            throwsIt("street(" + s + ", 0)", x -> x.street(s, 0));
            throwsIt("bin(" + s + ", 0, 0, 0)", x -> x.bin(s, 0, 0, 0));
            refused("dayOf(" + s + ", 0)", x -> x.dayOf(s, 0));
        }
        for (int what : new int[] {-1, 9, MIN, MAX}) {
            throwsIt("street(0, " + what + ")", x -> x.street(0, what));
            throwsIt("bin(0, 0, 0, " + what + ")", x -> x.bin(0, 0, 0, what));
            throwsIt("bin(0, " + what + ", 0, 0)", x -> x.bin(0, what, 0, 0));
            throwsIt("bin(0, 0, " + what + ", 0)", x -> x.bin(0, 0, what, 0));
            refused("dayOf(0, " + what + ")", x -> x.dayOf(0, what));
            refused("set(" + what + ", 1)", x -> x.set(what, 1));
            refused("sheet(" + what + ", 1, 1, 1)", x -> x.sheet(what, 1, 1, 1));
            refused("sheet(" + what + ", -1, 1, 1)", x -> x.sheet(what, -1, 1, 1));
        }
        int[] most = {999, 4, 9, 2, 99, 99, 999};
        int[] least = {0, 1, 0, 1, 1, 0, 0};
        for (int what = 0; what <= 6; what++) {
            int w = what;
            refused("set(" + w + ", above)", x -> x.set(w, most[w] + 1));
            refused("set(" + w + ", below)", x -> x.set(w, least[w] - 1));
        }
        refused("set(0, 0)", x -> x.set(0, 0));
        refused("set(0, less than LOAD)", x -> x.set(0, x.count(2) - 1));
        for (int kind = 0; kind <= 3; kind++) {
            int k = kind;
            refused("sheet(" + k + ", 7, 1, 1)", x -> x.sheet(k, 7, 1, 1));
            refused("sheet(" + k + ", MAX, 1, 1)", x -> x.sheet(k, MAX, 1, 1));
        }
        for (int kind = 0; kind <= 2; kind++) {
            int k = kind;
            refused("sheet(" + k + ", -1, 1, 1)", -2, x -> 0, x -> x.sheet(k, -1, 1, 1));
        }
    }

    private static void theRound() {
        for (int s : new int[] {-1, 3, 6, MIN, MAX}) {
            refused("drive(" + s + ")", x -> x.drive(s));
            refused("empty(" + s + ", 0)", x -> x.empty(s, 0));
        }
        for (int how : new int[] {-1, 3, MIN, MAX}) {
            refused("empty(0, " + how + ")", x -> x.empty(0, how));
            refused("empty(1, " + how + ") away from it", x -> x.empty(1, how));
        }
        for (int n : new int[] {-1, 10000, MIN, MAX}) {
            refused("pause(" + n + ")", x -> x.pause(n));
        }
        refused("empty(1, 0) away from it", -2, x -> 0, x -> x.empty(1, 0));
    }

    private static void theRoundInSomeStates() {
        On barred = x -> {
            x.week();
            return x.drive(1);
        };
        refused("empty(1, 0), BARRED", -3, barred, x -> x.empty(1, 0));
        refused("tip(), shut", -2, x -> x.set(6, 1), BinsBothSides::tip);
        On forgotten = x -> x.again(0) ? 1 : 0;
        refused("undo() of none", -1, forgotten, BinsBothSides::undo);
    }

    private static void oneStreet() {
        for (int s : new int[] {-1, 3, 6, MIN, MAX}) {
            refused("takes(" + s + ", 0)", x -> x.takes(s, 0));
            refused("best(" + s + ")", x -> x.best(s));
            refused("less(" + s + ")", x -> x.less(s));
            refused("less(" + s + "), one man", -1, x -> x.set(1, 1), x -> x.less(s));
            refused("line(" + s + ")", x -> x.line(s));
            throwsIt("hill(" + s + ")", x -> x.hill(s));
            refused("wet(" + s + ", 0)", x -> x.wet(s, 0));
            refused("tipnow(" + s + ")", x -> x.tipnow(s));
            refused("right(" + s + ", 5)", x -> x.right(s, 5));
            refused("care(" + s + ", 5)", x -> x.care(s, 5));
        }
        for (int v : new int[] {-1, MIN, MAX}) {
            refused("takes(0, " + v + ")", x -> x.takes(0, v));
            refused("wet(0, " + v + ")", x -> x.wet(0, v));
            refused("right(0, " + v + ")", x -> x.right(0, v));
            refused("care(0, " + v + ")", x -> x.care(0, v));
        }
        refused("takes(0, 3)", x -> x.takes(0, 3));
        refused("wet(0, 10)", x -> x.wet(0, 10));
        refused("right(0, 11)", x -> x.right(0, 11));
        refused("care(0, 101)", x -> x.care(0, 101));
        refused("less(0), one man", -2, x -> x.set(1, 1), x -> x.less(0));
    }

    private static void ordersAndDays() {
        for (int those : new int[] {8, 15, 64, -1, MIN, MAX}) {
            refused("soonest(" + those + ")", x -> x.soonest(those));
            refused("most(" + those + ", 5)", x -> x.most(those, 5));
            refused("share(" + those + ")", x -> x.share(those));
            refused("weighed(" + those + ", 5)", x -> x.weighed(those, 5));
        }
        refused("soonest(0)", x -> x.soonest(0));
        for (int v : new int[] {-1, 100000, MIN, MAX}) {
            refused("most(1, " + v + ")", x -> x.most(1, v));
            refused("holiday(0, " + v + ")", x -> x.holiday(0, v));
            refused("weighed(1, " + v + ")", x -> x.weighed(1, v));
            refused("holiday(" + v + ", 5)", x -> x.holiday(v, 5));
        }
        refused("holiday(7, 5)", x -> x.holiday(7, 5));
        refused("soonest(7), shut", -2, x -> x.set(6, 1), x -> x.soonest(7));
        refused("tipnow(0), it does not fit at all", -2, x -> x.week() + x.set(0, 5), x -> x.tipnow(0));
        refused("holiday(0, 1), it can't be", -2, x -> x.week(), x -> x.holiday(0, 1));
    }

    private static void rubbleAndOdds() {
        refused("weighed(1, 10000)", x -> x.weighed(1, 10000));
        On ten = x -> {
            int size = 0;
            for (int i = 3; i <= 10; i++) {
                size = x.weighed(2, 28);
            }
            return size;
        };
        refused("weighed(1, 1), an eleventh", -1, ten, x -> x.weighed(1, 1));
        refused("next(), no such pair", -2, x -> x.weighed(0, 1), BinsBothSides::next);
        for (int n : new int[] {0, 21, -1, MIN, MAX}) {
            refused("weeks(1, " + n + ", 5)", x -> x.weeks(1, n, 5));
        }
        for (int p : new int[] {11, -1, MIN, MAX}) {
            refused("weeks(1, 1, " + p + ")", x -> x.weeks(1, 1, p));
        }
        for (int what : new int[] {-1, 12, MIN, MAX}) {
            refused("count(" + what + ")", -100, x -> 0, x -> x.count(what));
            throwsIt("row(" + what + ")", x -> x.row(what));
        }
        throwsIt("row(3) of three", x -> x.row(3));
    }

    private static void kept() {
        for (int i : new int[] {-1, 3, MIN, MAX}) {
            refused("keep(" + i + ")", 0, x -> 0, x -> x.keep(i) ? 1 : 0);
            refused("again(" + i + ")", 0, x -> 0, x -> x.again(i) ? 1 : 0);
        }
        refused("again(1), nothing kept", 0, x -> 0, x -> x.again(1) ? 1 : 0);
        refused("again(2), STREETS came since", 0, x -> Check.streets(x, "s1:1/1"), x -> x.again(2) ? 1 : 0);
        refused("again(0), FULL is less", 0, x -> x.tip() + x.set(0, 5), x -> x.again(0) ? 1 : 0);
    }

    /** These calls empty the text, and change nothing else. */
    private static void readText() {
        reads("streets(), a wrong text", "s1:1/1;s2:1/", -13, BinsBothSides::streets);
        reads("streets(), no room", "s1:1/1;s2:1/1;s3:1/1;s4:1/1", -22, BinsBothSides::streets);
        reads("streets(), an empty text", "", 0, BinsBothSides::streets);
        reads("rule(), a wrong text", "1+2*", -5, BinsBothSides::rule);
        reads("round(), a wrong text", "t;p5;e0", -8, BinsBothSides::round);
        reads("order(), an empty text", "", -1, BinsBothSides::order);
        reads("order(), a wrong text", "012x", -4, BinsBothSides::order);
        reads("order(), none such", "3", -1, BinsBothSides::order);
        BinsBothSides x = busy();
        BinsBothSides twin = busy();
        x.set(6, 1);
        twin.set(6, 1);
        Check.due("order(), shut", Check.order(x, "01"), -200);
        Check.due("order(), shut: the text", x.count(10), 0);
        Check.due("order(), shut, changes nothing", all(x), all(twin));
        BinsBothSides y = busy();
        for (int i = 1; i <= 20; i++) {
            y.sign('t' << 24 | ';' << 16 | 't' << 8 | ';');
        }
        Check.due("sign() behind 80", y.sign(7), -1);
        Check.due("sign() behind 80: the text", y.count(10), 80);
        Check.due("sign() behind 80: it tells the same", y.round(), -61);
        Check.due("sign() behind 80 changes nothing", all(y), all(busy()));
    }

    private static void reads(String what, String text, int due, On call) {
        BinsBothSides x = busy();
        Check.say(x, text);
        Check.due(what, call.of(x), due);
        Check.due(what + ": the text", x.count(10), 0);
        Check.due(what + " changes nothing", all(x), all(busy()));
    }

    /** "one street (nothing changes ..)", and all else that asks: the row alone is another. */
    private static void inThought() {
        thought("takes(0, 0)", x -> x.takes(0, 0));
        thought("best(0)", x -> x.best(0));
        thought("less(0)", x -> x.less(0));
        thought("line(0)", x -> x.line(0));
        thought("hill(0)", x -> x.hill(0));
        thought("wet(0, 9)", x -> x.wet(0, 9));
        thought("order()", x -> Check.order(x, "021"));
        thought("soonest(7)", x -> x.soonest(7));
        thought("most(7, 99999)", x -> x.most(7, 99999));
        thought("tipnow(1)", x -> x.tipnow(1));
        thought("share(7)", x -> x.share(7));
        thought("holiday(0, 99999)", x -> x.holiday(0, 99999));
        thought("busiest()", BinsBothSides::busiest);
        thought("rubble()", BinsBothSides::rubble);
        thought("whose()", BinsBothSides::whose);
        thought("next()", x -> x.forget() + x.weighed(3, 70) + x.weighed(0, 0) + x.next());
        thought("right(0, 5)", x -> x.right(0, 5));
        thought("care(0, 5)", x -> x.care(0, 5));
        thought("weeks(5, 20, 5)", x -> x.weeks(5, 20, 5));
        thought("street(0, 8)", x -> x.street(0, 8));
        thought("bin(0, 0, 0, 3)", x -> x.bin(0, 0, 0, 3));
        thought("count(4)", x -> x.count(4));
        thought("row(0)", x -> x.row(0));
    }

    private static void thought(String what, On call) {
        BinsBothSides x = busy();
        BinsBothSides twin = busy();
        Check.due(what + " answers", call.of(x) >= -1, true);
        x.best(0);
        twin.best(0);
        Check.due(what + " changes nothing", all(x), all(twin));
    }
}
