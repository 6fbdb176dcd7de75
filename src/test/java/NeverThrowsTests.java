import java.util.NoSuchElementException;
import java.util.Random;

/** Drawn calls with any arguments (by a fixed seed): nothing is thrown but what the document tells, and refused calls change nothing. */
public final class NeverThrowsTests {
    private static final Random DRAW = new Random(7);
    private static final int[] EDGES = {Integer.MIN_VALUE, Integer.MAX_VALUE, -1, 63, 64, 99999, 9999, 100000, -2, 1 << 31 >> 3, 31, 32, 33};
    private static final String[] TEXTS = {"s10:350/405u;s30:9/0!x1-2", "s1:12345678/98765432x0-3", "s99:0/0;s0:9/9d", "8+w*c",
        "-w/(b-1)*999*999*999*u", "m<2", "g0;e02;t", "p99;g1;e11;g2;e20;t", "0", "10", "012345", "543", "21", "t;t;g5", "s9:99/99!d"};

    public static void main(String[] args) {
        for (int i = 0; i < 400; i++) {
            run(i);
        }
        Check.end("NeverThrowsTests");
    }

    private static int any() {
        int kind = DRAW.nextInt(20);
        if (kind == 0) {
            return DRAW.nextInt();
        }
        if (kind < 3) {
            return EDGES[DRAW.nextInt(EDGES.length)];
        }
        return DRAW.nextInt(kind < 14 ? 6 : kind < 18 ? 64 : 10000);
    }

    private static void run(int number) {
        BinsBothSides x = new BinsBothSides();
        for (int i = 0; i < 512; i++) {
            if (DRAW.nextInt(4) == 0) {
                Check.say(x, TEXTS[DRAW.nextInt(TEXTS.length)]);
                if (DRAW.nextInt(8) == 0) {
                    x.sign(DRAW.nextInt());
                }
            }
            int kind = DRAW.nextInt(41);
            String before = all(x);
            String got = "";
            long answer = 0;
            boolean threw = false;
            try {
                answer = call(x, kind);
            } catch (NoSuchElementException e) {
                threw = true;
                got = "NoSuchElementException";
            } catch (RuntimeException e) {
                got = e.toString();
            }
            boolean may = kind == 4 || kind == 5 || kind == 20 || kind == 40;
            Check.due("run " + number + ", call " + i + " of kind " + kind + " throws what it may", got, threw && may ? "NoSuchElementException" : "");
            if (threw || answer == -1 && kind != 18 && kind != 20 && kind != 8 && kind != 40) {
                Check.due("run " + number + ", a refused call of kind " + kind, all(x), before);
            }
        }
    }

    private static String all(BinsBothSides x) {
        StringBuilder all = new StringBuilder(Check.state(x)).append(' ').append(Check.row(x));
        for (int what = 7; what <= 11; what++) {
            all.append(' ').append(what == 10 ? 0 : x.count(what));
        }
        for (int s = 0; s < x.count(0); s++) {
            all.append(' ').append(x.street(s, 0)).append(' ').append(x.street(s, 4)).append(' ').append(x.bin(s, 0, 0, 3));
        }
        return all.toString();
    }

    private static long call(BinsBothSides x, int kind) {
        switch (kind) {
            case 0: return x.sign(any());
            case 1: return x.end(any()) ? 1 : 0;
            case 2: return x.streets();
            case 3: return x.rule();
            case 4: return x.street(any(), any());
            case 5: return x.bin(any(), any(), any(), any());
            case 6: return x.set(any(), any());
            case 7: return x.dayOf(any(), any());
            case 8: return x.sheet(any(), any(), any(), any());
            case 9: return x.drive(any());
            case 10: return x.empty(any(), any());
            case 11: return x.tip();
            case 12: return x.pause(any());
            case 13: return x.week();
            case 14: return x.round();
            case 15: return x.undo();
            case 16: return x.takes(any(), any());
            case 17: return x.best(any());
            case 18: return x.less(any());
            case 19: return x.line(any());
            case 20: return x.hill(any());
            case 21: return x.wet(any(), any());
            case 22: return x.order();
            case 23: return x.soonest(any());
            case 24: return x.most(any(), any());
            case 25: return x.tipnow(any());
            case 26: return x.share(any());
            case 27: return x.holiday(any(), any());
            case 28: return x.busiest();
            case 29: return x.weighed(any(), any());
            case 30: return x.forget();
            case 31: return x.rubble();
            case 32: return x.whose();
            case 33: return x.next();
            case 34: return x.right(any(), any());
            case 35: return x.care(any(), any());
            case 36: return x.weeks(any(), any(), any());
            case 37: return x.keep(any()) ? 1 : 0;
            case 38: return x.again(any()) ? 1 : 0;
            case 39: return x.count(any());
            default: return x.row(any());
        }
    }
}
