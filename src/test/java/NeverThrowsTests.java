import java.util.ArrayList;
import java.util.List;
import java.util.NoSuchElementException;
import java.util.Random;

/** Drawn calls with any arguments (by a fixed seed): nothing is thrown but what the document tells, and refused calls change nothing. */
public final class NeverThrowsTests {
    private static final Random DRAW = new Random(7);
    private static final int[] EDGES = {Integer.MIN_VALUE, Integer.MAX_VALUE, -1, 63, 64, 99999, 9999, 100000, -2, 1 << 31 >> 3, 31, 32, 33};
    private static final String[] TEXTS = {"s10:350/405u;s30:9/0!x1-2", "s1:12345678/98765432x0-3", "s99:0/0;s0:9/9d", "8+w*c",
        "-w/(b-1)*999*999*999*u", "m<2", "g0;e02;t", "p99;g1;e11;g2;e20;t", "0", "10", "012345", "543", "21", "t;t;g5", "s9:99/99!d"};

    /** So many calls of an object are drawn; with those of all() they stay below the 512 for which something is promised. */
    private static final int MOST_CALLS = 360;

    private static final class Step {
        private final String text = DRAW.nextInt(4) == 0 ? TEXTS[DRAW.nextInt(TEXTS.length)] : null;
        private final int sign = DRAW.nextInt(8) == 0 ? DRAW.nextInt() : 0;
        private final int kind = DRAW.nextInt(41);
        private final int[] a = {any(), any(), any(), any()};

        int calls() {
            return 1 + (text == null ? 0 : 4 + text.length() / 4);
        }

        void tell(BinsBothSides x) {
            if (text != null) {
                Check.say(x, text);
                if (sign != 0) {
                    x.sign(sign);
                }
            }
        }

        /** What it answers, or the name of what it throws. */
        String take(BinsBothSides x) {
            try {
                return "" + call(x, kind, a);
            } catch (NoSuchElementException e) {
                return "NoSuchElementException";
            } catch (RuntimeException e) {
                return e.toString();
            }
        }

        /** Whether its answer says that it was refused; less(), hill() and row() may answer -1 as a number. */
        boolean isRefused(String answer) {
            boolean none = answer.equals("-1") && kind != 18 && kind != 20 && kind != 40;
            boolean untrue = answer.equals("0") && (kind == 1 || kind == 37 || kind == 38);
            return none || untrue || answer.equals("NoSuchElementException");
        }
    }

    public static void main(String[] args) {
        for (int i = 0; i < 3000; i++) {
            run(i);
        }
        Check.end("NeverThrowsTests");
    }

    private static int any() {
        int kind = DRAW.nextInt(20);
        if (kind == 0) {
            return DRAW.nextInt();
        }
        if (kind < 3) {
            return EDGES[DRAW.nextInt(EDGES.length)];
        }
        return DRAW.nextInt(kind < 14 ? 6 : kind < 18 ? 64 : 10000);
    }

    /** Drawn calls till one of them, the last that is looked at, is refused; it has changed nothing. */
    private static void run(int number) {
        BinsBothSides x = new BinsBothSides();
        List<Step> steps = new ArrayList<>();
        int refused = DRAW.nextInt(80);
        int calls = 0;
        while (true) {
            Step step = new Step();
            calls += step.calls();
            if (calls > MOST_CALLS) {
                return;
            }
            step.tell(x);
            String got = step.take(x);
            boolean mayThrow = step.kind == 4 || step.kind == 5 || step.kind == 20 || step.kind == 40;
            boolean fine = got.equals("NoSuchElementException") ? mayThrow : got.matches("-?[0-9]+");
            Check.due("run " + number + ", a call of kind " + step.kind + " answers " + got, fine, true);
            if (step.isRefused(got)) {
                refused--;
                if (refused < 0) {
                    Check.due("run " + number + ", a refused call of kind " + step.kind, all(x), all(again(steps)));
                    return;
                }
            }
            steps.add(step);
        }
    }

    private static BinsBothSides again(List<Step> steps) {
        BinsBothSides twin = new BinsBothSides();
        for (Step step : steps) {
            step.tell(twin);
            step.take(twin);
        }
        return twin;
    }

    private static String all(BinsBothSides x) {
        StringBuilder all = new StringBuilder(Check.state(x)).append(' ').append(Check.row(x));
        for (int what = 7; what <= 11; what++) {
            all.append(' ').append(what == 10 ? 0 : x.count(what));
        }
        int streets = x.count(0);
        for (int s = 0; s < streets; s++) {
            all.append(' ').append(x.street(s, 0)).append(' ').append(x.street(s, 4)).append(' ').append(x.bin(s, 0, 0, 3));
        }
        return all.toString();
    }

    private static long call(BinsBothSides x, int kind, int[] a) {
        switch (kind) {
            case 0: return x.sign(a[0]);
            case 1: return x.end(a[0]) ? 1 : 0;
            case 2: return x.streets();
            case 3: return x.rule();
            case 4: return x.street(a[0], a[1]);
            case 5: return x.bin(a[0], a[1], a[2], a[3]);
            case 6: return x.set(a[0], a[1]);
            case 7: return x.dayOf(a[0], a[1]);
            case 8: return x.sheet(a[0], a[1], a[2], a[3]);
            case 9: return x.drive(a[0]);
            case 10: return x.empty(a[0], a[1]);
            case 11: return x.tip();
            case 12: return x.pause(a[0]);
            case 13: return x.week();
            case 14: return x.round();
            case 15: return x.undo();
            case 16: return x.takes(a[0], a[1]);
            case 17: return x.best(a[0]);
            case 18: return x.less(a[0]);
            case 19: return x.line(a[0]);
            case 20: return x.hill(a[0]);
            case 21: return x.wet(a[0], a[1]);
            case 22: return x.order();
            case 23: return x.soonest(a[0]);
            case 24: return x.most(a[0], a[1]);
            case 25: return x.tipnow(a[0]);
            case 26: return x.share(a[0]);
            case 27: return x.holiday(a[0], a[1]);
            case 28: return x.busiest();
            case 29: return x.weighed(a[0], a[1]);
            case 30: return x.forget();
            case 31: return x.rubble();
            case 32: return x.whose();
            case 33: return x.next();
            case 34: return x.right(a[0], a[1]);
            case 35: return x.care(a[0], a[1]);
            case 36: return x.weeks(a[0], a[1], a[2]);
            case 37: return x.keep(a[0]) ? 1 : 0;
            case 38: return x.again(a[0]) ? 1 : 0;
            case 39: return x.count(a[0]);
            default: return x.row(a[0]);
        }
    }
}
