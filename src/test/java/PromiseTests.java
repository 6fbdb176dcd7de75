/** Each promise by hand: ordinary inputs, the edges that the document names, wrong inputs. */
public final class PromiseTests {
    private static final int MIN = Integer.MIN_VALUE;
    private static final int MAX = Integer.MAX_VALUE;

    /** LONG 2, bins 3, 5 on the left, 4 on the right, up; and a dead end of LONG 1, barred 1 to 2. */
    private static final String TWO = "s10:35/40u;s30:9/0!x1-2";

    public static void main(String[] args) {
        newObject();
        sign();
        end();
        streets();
        streetsFaults();
        streetsAfterFaults();
        rule();
        ruleFaults();
        street();
        bin();
        set();
        dayOf();
        sheet();
        drive();
        empty();
        emptyFullAndLeft();
        tip();
        pause();
        week();
        round();
        roundFaults();
        undo();
        takes();
        best();
        less();
        line();
        hill();
        wet();
        order();
        orderWaits();
        soonest();
        most();
        tipnow();
        share();
        holiday();
        busiest();
        weighed();
        rubble();
        whose();
        next();
        right();
        care();
        weeks();
        keep();
        count();
        row();
        textIsEmptied();
        Check.end("PromiseTests");
    }

    private static void newObject() {
        BinsBothSides x = new BinsBothSides();
        Check.due("P1 NONE", BinsBothSides.NONE, -1);
        for (int what = 0; what <= 10; what++) {
            Check.due("P1 count(" + what + ")", x.count(what), 0);
        }
        Check.due("P1 FULL", x.count(11), 100);
        int[] first = {100, 2, 0, 1, 30, 50, 480};
        for (int what = 0; what < first.length; what++) {
            Check.due("P1 set(" + what + ")", x.set(what, first[what]), first[what]);
        }
        Check.dueThrows("P1 street(0, 0)", () -> x.street(0, 0));
        Check.dueThrows("P1 row(0)", () -> x.row(0));
        Check.due("P1 undo()", x.undo(), -1);
    }

    private static void sign() {
        BinsBothSides x = new BinsBothSides();
        for (int i = 1; i <= 20; i++) {
            Check.due("P2 sign() no. " + i, x.sign(-1), 4 * i);
        }
        Check.due("P2 sign() above 80", x.sign(0), -1);
        Check.due("P2 signs stay", x.count(10), 80);
        Check.due("P2 end(77)", x.end(77), true);
        Check.due("P2 sign() behind 77", x.sign(0), -1);
        Check.due("P2 end(76)", x.end(76), true);
        Check.due("P2 sign() behind 76", x.sign(0), 80);
        x.end(0);
        x.sign('s' << 24 | '7' << 16 | ':' << 8 | '1');
        x.sign('/' << 24 | '2' << 16);
        x.end(6);
        Check.due("P2 the highest byte is first", x.streets(), 1);
        Check.due("P2 X", x.street(0, 0), 7);
        x.sign(0xff000000);
        x.end(1);
        Check.due("P2 a byte above 127", x.rule(), -1);
    }

    private static void end() {
        BinsBothSides x = new BinsBothSides();
        Check.due("P3 end(0)", x.end(0), true);
        Check.due("P3 end(1) of none", x.end(1), false);
        x.sign(0);
        Check.due("P3 end(-1)", x.end(-1), false);
        Check.due("P3 end(5)", x.end(5), false);
        Check.due("P3 end(MIN)", x.end(MIN), false);
        Check.due("P3 end(MAX)", x.end(MAX), false);
        Check.due("P3 signs stay", x.count(10), 4);
        Check.due("P3 end(4)", x.end(4), true);
        Check.due("P3 end(3)", x.end(3), true);
        Check.due("P3 signs", x.count(10), 3);
    }

    private static void streets() {
        BinsBothSides x = new BinsBothSides();
        Check.due("P4 two", Check.streets(x, TWO), 2);
        Check.due("P4 one more", Check.streets(x, "s7:12345678/90000000!dx0-999"), 1);
        Check.due("P4 count", x.count(0), 3);
        Check.due("P4 bins out", x.count(4), 3 + 1 + 9);
        Check.due("P4 street 2", facts(x, 2), "7 8 -1 1 0 0 999 9 45");
        Check.due("P4 street 0", facts(x, 0), "10 2 1 0 0 -1 -1 3 12");
        Check.due("P4 street 1", facts(x, 1), "30 1 0 1 0 1 2 1 9");
        Check.due("P4 an empty one", Check.streets(x, ""), 0);
        Check.due("P4 three more", Check.streets(x, "s0:0/0;s99:1/1u;s5:1/1x9-9"), 3);
        Check.due("P4 no room for an empty one", Check.streets(x, ""), 0);
        Check.due("P4 no room", Check.streets(x, "s0:0/0"), -1);
        Check.due("P4 no room, whatever it is", Check.streets(x, "?"), -1);
        Check.due("P4 count", x.count(0), 6);
        Check.due("P4 X 99", x.street(4, 0), 99);
    }

    /** What a refused text told is gone. */
    private static void streetsAfterFaults() {
        BinsBothSides x = new BinsBothSides();
        Check.due("P4 refused", Check.streets(x, "s9:99999999/99999999!ux1-2?"), -27);
        Check.due("P4 refused", Check.streets(x, "s9:99/99!ux1-2;s9:99999999/9"), -29);
        Check.due("P4 two", Check.streets(x, "s1:01/10;s2:0/5"), 2);
        Check.due("P4 street 0", facts(x, 0), "1 2 0 0 0 -1 -1 2 2");
        Check.due("P4 street 1", facts(x, 1), "2 1 0 0 0 -1 -1 1 5");
        Check.due("P4 bins out", x.count(4), 3);
    }

    private static String facts(BinsBothSides x, int s) {
        StringBuilder facts = new StringBuilder();
        for (int what = 0; what <= 8; what++) {
            facts.append(what == 0 ? "" : " ").append(x.street(s, what));
        }
        return facts.toString();
    }

    private static void streetsFaults() {
        BinsBothSides x = new BinsBothSides();
        String[] texts = {"x", "s", "s5", "s5:", "s5:1", "s5:12", "s5:1/", "s5:12/3", "s5:1/23", "s5:123456789/",
            "s5:1/2u!", "s5:1/2!ux", "s5:1/2x9", "s5:1/2x9-5", "s123:1/2", "s5:1/2;", "s:1/2", "s5:/2", "s5:12/3!",
            "s5:1/2ud", "s5:1/2!!", "s5:1/2x1-2u", "s5:1/2x1000-2", "s5:1/2x1-1000", "s5:1/2x100-50",
            "s5:1/2x101-1000", "s5:1/2x-5", "s5:1/2x9-", "s5:1/2;x", "s5:1/2 ", "s5:1/2;s5:1/2x2-1;s", "s5:1/2x100-5;"};
        int[] places = {0, 1, 2, 3, 4, 5, 5, 7, 6, 11,
            7, 9, 8, 9, 3, 7, 1, 3, 7,
            7, 7, 10, 10, 12, 12,
            13, 7, 9, 7, 6, 16, 11};
        for (int i = 0; i < texts.length; i++) {
            Check.due("P4 " + texts[i], Check.streets(x, texts[i]), -1 - places[i]);
            Check.due("P4 nothing came of " + texts[i], x.count(0), 0);
        }
        String six = "s1:0/0;s1:0/0;s1:0/0;s1:0/0;s1:0/0;s1:0/0";
        Check.due("P4 a seventh line", Check.streets(x, six + ";s1:0/0"), -43);
        Check.due("P4 no room behind ;", Check.streets(x, six + ";"), -43);
        Check.due("P4 nothing came", x.count(0), 0);
        String two = "s11:11111111/11111111!u;s11:11111111/11111111!u;";
        String third = "s11:11111111/11111111";
        Check.due("P4 length", (two + third).length(), 69);
        Check.due("P4 77 signs, the first 76 could end or go on", Check.streets(x, two + third + "!x10-110"), -1 - 76);
        Check.due("P4 77 signs, the first 76 could end", Check.streets(x, two + third + "!x10-11;"), -1 - 76);
        Check.due("P4 77 signs, the last is wrong anyway", Check.streets(x, two + third + "!x10-11?"), -1 - 76);
        Check.due("P4 77 signs, the first 76 go on", Check.streets(x, two + third + "!x1-10;s"), -1 - 76);
        Check.due("P4 77 signs, the first 76 go on", Check.streets(x, two + third + "x10-11;s"), -1 - 76);
        Check.due("P4 78 signs, a fault at 75", Check.streets(x, two + third + "!x10-1?00"), -1 - 74);
        Check.due("P4 to below from at 75", Check.streets(x, two + third + "!ux10-5"), -1 - 75);
        Check.due("P4 to below from at 75, digits behind", Check.streets(x, two + third + "!ux10-500"), -1 - 75);
        Check.due("P4 to below from at 75, digits behind", Check.streets(x, two + third + "x100-999"), -1 - 75);
        Check.due("P4 76 signs, ended too early", Check.streets(x, two + third + "!x100-;"), -1 - 75);
        Check.due("P4 76 signs, ended too early", Check.streets(x, two + third + "!ux100-"), -1 - 76);
        Check.due("P4 nothing came", x.count(0), 0);
        Check.due("P4 76 signs", Check.streets(x, two + third + "!x10-11"), 3);
        Check.due("P4 to", x.street(2, 6), 11);
    }

    private static void rule() {
        BinsBothSides x = Check.town("s10:35/40u;s20:12/34d");
        Check.due("P5 none", x.bin(0, 0, 1, 3), 13);
        String[] rules = {"w", "b+1", "s*7+2", "u+5", "m", "r+1", "c+1", "t+1", "1+2*3", "10-3-2", "100/7/2", "7/0",
            "7/0+2", "--3", "-(-3)", "2--3", "-3*-2", "(1<2)+5", "1<2", "2<1", "2>1", "1=1", "1+1=2", "999*999*999*999",
            "1000"};
        int[] of = {5, 2, 2, 6, 2, 1, 1, 1, 7, 5, 7, 1,
            2, 3, 3, 5, 6, 6, 1, 1, 1, 1, 1, Math.max(1, Math.min(999, 999 * 999 * 999 * 999)),
            13};
        for (int i = 0; i < rules.length; i++) {
            boolean fine = !rules[i].equals("1000");
            Check.rule(x, "");
            Check.due("P5 " + rules[i], Check.rule(x, rules[i]), fine ? 0 : -4);
            Check.due("P5 seconds by " + rules[i], x.bin(0, 0, 1, 3), of[i]);
        }
        Check.rule(x, "s*10+b*100+t+u+3");
        Check.due("P5 right, block 1, street 1, down", x.bin(1, 1, 1, 3), 10 + 100 + 1 - 1 + 3);
        Check.due("P5 refused", Check.rule(x, "7*7+"), -5);
        Check.due("P5 the old rule stays", x.bin(1, 1, 1, 3), 113);
        Check.due("P5 cut to 0", Check.rule(x, "10+(0-7)/2"), 0);
        Check.due("P5 cut to 0, seconds", x.bin(0, 0, 0, 3), 7);
        Check.due("P5 999 is the most", Check.rule(x, "999+1"), 0);
        Check.due("P5 999 is the most, seconds", x.bin(0, 0, 0, 3), 999);
        Check.due("P5 1 is the least", Check.rule(x, "-5"), 0);
        Check.due("P5 1 is the least, seconds", x.bin(0, 0, 0, 3), 1);
        Check.due("P5 c by hand", Check.rule(x, "5+c*100"), 0);
        Check.due("P5 c by hand, seconds", x.bin(0, 0, 0, 3), 5);
        x.takes(0, 2);
        Check.due("P5 c carried", Check.row(x), (3 * 5 + 100 + 100 + 200 + 4 * 4 + 1) / 2 + " 0");
        Check.due("P5 an empty one", Check.rule(x, ""), 0);
        Check.due("P5 an empty one: none", x.bin(0, 0, 1, 3), 13);
        Check.due("P5 four in one another", Check.rule(x, "((((7))))"), 0);
        Check.due("P5 four in one another, seconds", x.bin(0, 0, 1, 3), 7);
        Check.due("P5 40 signs", Check.rule(x, "1+1+1+1+1+1+1+1+1+1+1+1+1+1+1+1+1+1+1+25"), 0);
        Check.due("P5 40 signs, seconds", x.bin(0, 0, 1, 3), 44);
    }

    private static void ruleFaults() {
        BinsBothSides x = Check.town("s10:35/40u");
        String[] texts = {"+", "1+", "1<", "1<2<3", "1=2>1", "(1<2<3)", "1000", "w1", "1w", "ww", "(1", "(1))", "()",
            "(((((1)))))", "-", "1 ", "x", "W", "1<2+", "*1", "1**1", "((((1))))(", "1/", "(1<2)<3<4"};
        int[] places = {0, 2, 2, 3, 3, 4, 3, 1, 1, 1, 2, 3, 1,
            4, 1, 1, 0, 0, 4, 0, 2, 9, 2, 7};
        for (int i = 0; i < texts.length; i++) {
            Check.due("P5 " + texts[i], Check.rule(x, texts[i]), -1 - places[i]);
        }
        String forty = "1+1+1+1+1+1+1+1+1+1+1+1+1+1+1+1+1+1+1+25";
        Check.due("P5 41 signs", Check.rule(x, forty + "1"), -41);
        Check.due("P5 41 signs, a wrong one", Check.rule(x, forty + "?"), -41);
        Check.due("P5 the 40th goes on", Check.rule(x, forty.substring(0, 39) + "+1"), -41);
        Check.due("P5 the 40th is wrong", Check.rule(x, forty.substring(0, 39) + "?1"), -40);
        Check.due("P5 its end at 40", Check.rule(x, forty.substring(0, 39) + "+"), -41);
        Check.due("P5 80 signs", Check.rule(x, forty + forty), -41);
    }

    private static void street() {
        BinsBothSides x = Check.town(TWO);
        Check.due("P6 street 0", facts(x, 0), "10 2 1 0 0 -1 -1 3 12");
        x.set(2, 9);
        x.set(3, 2);
        Check.due("P6 HEAVY in rain, double", x.street(0, 8), 6 * 19 / 10 + 10 * 19 / 10 + 8 * 19 / 10);
        x.set(4, 10);
        Check.due("P6 those too heavy are out", x.street(0, 7), 3);
        x.drive(0);
        x.empty(0, 2);
        Check.due("P6 none is out", x.street(0, 7), 0);
        Check.due("P6 none is out, HEAVY", x.street(0, 8), 0);
        int[][] wrong = {{-1, 0}, {2, 0}, {0, -1}, {0, 9}, {MIN, MIN}, {MAX, MAX}, {0, MAX}, {6, 0}};
        for (int[] call : wrong) {
            Check.dueThrows("P6 street(" + call[0] + ", " + call[1] + ")", () -> x.street(call[0], call[1]));
        }
    }

    private static void bin() {
        BinsBothSides x = Check.town(TWO);
        Check.due("P7 WEIGHT", x.bin(0, 0, 1, 0), 5);
        x.set(2, 3);
        x.set(3, 2);
        Check.due("P7 HEAVY", x.bin(0, 0, 1, 1), 13);
        Check.due("P7 none", x.bin(0, 1, 1, 2), 0);
        Check.due("P7 out", x.bin(0, 1, 0, 2), 1);
        Check.due("P7 seconds of a house without a bin", x.bin(0, 1, 1, 3), 8);
        x.set(4, 12);
        Check.due("P7 seconds of one too heavy", x.bin(0, 0, 1, 3), 21);
        x.drive(0);
        x.empty(0, 0);
        Check.due("P7 EMPTIED", x.bin(0, 0, 0, 2), 2);
        Check.due("P7 LEFT", x.bin(0, 0, 1, 2), 3);
        int[][] wrong = {{-1, 0, 0, 0}, {2, 0, 0, 0}, {0, -1, 0, 0}, {0, 2, 0, 0}, {0, 0, -1, 0}, {0, 0, 2, 0},
            {0, 0, 0, -1}, {0, 0, 0, 4}, {MAX, MAX, MAX, MAX}, {MIN, MIN, MIN, MIN}, {0, 0, 0, MAX}, {1, 1, 1, 0}};
        for (int[] call : wrong) {
            Check.dueThrows("P7 bin(" + call[0] + ", " + call[1] + ", " + call[2] + ", " + call[3] + ")",
                () -> x.bin(call[0], call[1], call[2], call[3]));
        }
    }

    private static void set() {
        BinsBothSides x = Check.town(TWO);
        int[] least = {1, 1, 0, 1, 1, 0, 0};
        int[] most = {999, 4, 9, 2, 99, 99, 999};
        for (int what = 0; what < least.length; what++) {
            Check.due("P8 below the least of " + what, x.set(what, least[what] - 1), -1);
            Check.due("P8 above the most of " + what, x.set(what, most[what] + 1), -1);
            Check.due("P8 MIN of " + what, x.set(what, MIN), -1);
            x.set(what, least[what]);
            Check.due("P8 the least of " + what, x.set(what, most[what]), least[what]);
            Check.due("P8 the most of " + what, x.set(what, most[what]), most[what]);
        }
        Check.due("P8 set(-1, 1)", x.set(-1, 1), -1);
        Check.due("P8 set(7, 1)", x.set(7, 1), -1);
        Check.due("P8 set(MAX, 1)", x.set(MAX, 1), -1);
        BinsBothSides y = Check.town(TWO);
        y.drive(0);
        y.empty(0, 2);
        Check.due("P8 FULL below LOAD", y.set(0, 11), -1);
        Check.due("P8 FULL stays", y.count(11), 100);
        Check.due("P8 FULL is LOAD", y.set(0, 12), 100);
        Check.due("P8 FULL", y.count(11), 12);
    }

    private static void dayOf() {
        BinsBothSides x = Check.town(TWO);
        Check.due("P9 dayOf(1, 6)", x.dayOf(1, 6), 0);
        Check.due("P9 dayOf(1, 3)", x.dayOf(1, 3), 6);
        Check.due("P9 DAY", x.street(1, 4), 3);
        Check.due("P9 DAY of the other", x.street(0, 4), 0);
        Check.due("P9 dayOf(1, 0)", x.dayOf(1, 0), 3);
        Check.due("P9 DAY", x.street(1, 4), 0);
        int[][] wrong = {{2, 0}, {-1, 0}, {0, -1}, {0, 7}, {MIN, MAX}};
        for (int[] call : wrong) {
            Check.due("P9 dayOf(" + call[0] + ", " + call[1] + ")", x.dayOf(call[0], call[1]), -1);
        }
    }

    private static void sheet() {
        BinsBothSides x = Check.town("s1:1/1;s2:1/1;s3:1/1");
        Check.due("P10 ints", x.sheet(2, 3, 5, 10), 5 + 15 + 25);
        Check.due("P10 X", x.street(2, 0), 25);
        Check.due("P10 those behind n are 0", x.sheet(2, 2, 5, 10), 20);
        Check.due("P10 X behind n", x.street(2, 0), 0);
        Check.due("P10 more entries than streets", x.sheet(2, 6, 1, 1), 6);
        Check.due("P10 bytes: 100, 200 is -56, 300 is 44", x.sheet(0, 3, 100, 100), 99 + 0 + 44);
        Check.due("P10 shorts: 65535 is -1, 65537 is 1", x.sheet(1, 3, 65535, 2), 0 + 1 + 3);
        Check.due("P10 ints with their sign", x.sheet(2, 3, -5, 50), 0 + 45 + 95);
        Check.due("P10 a step that wraps", x.sheet(2, 3, MAX, 1), 99);
        Check.due("P10 n 0", x.sheet(2, 0, 9, 9), 0);
        x.sheet(2, 3, 1, 1);
        Check.due("P10 n below 0", x.sheet(2, -1, 9, 9), -2);
        Check.due("P10 nothing changes", x.street(0, 0), 1);
        Check.due("P10 another kind is first", x.sheet(4, -1, 9, 9), -1);
        Check.due("P10 kind -1", x.sheet(-1, 1, 9, 9), -1);
        Check.due("P10 n above 6", x.sheet(0, 7, 9, 9), -1);
        Check.due("P10 n above 6 of a missing one", x.sheet(3, 7, 9, 9), -1);
        Check.due("P10 nothing changes", x.street(2, 0), 3);
        Check.due("P10 missing", x.sheet(3, 3, 9, 9), -3);
        Check.due("P10 all 0", x.street(0, 0) + x.street(1, 0) + x.street(2, 0), 0);
        x.sheet(2, 3, 1, 1);
        Check.due("P10 missing, n below 0", x.sheet(3, -1, 9, 9), -3);
        Check.due("P10 all 0", x.street(0, 0) + x.street(1, 0) + x.street(2, 0), 0);
    }

    private static void drive() {
        BinsBothSides x = Check.town(TWO);
        Check.due("P11 drive(1)", x.drive(1), 300);
        Check.due("P11 drive(0)", x.drive(0), 200);
        Check.due("P11 drive(0) again", x.drive(0), 0);
        Check.due("P11 X", x.count(1), 10);
        Check.due("P11 NOW", x.count(3), 500);
        Check.due("P11 what can be undone", x.count(8), 3);
        Check.due("P11 drive(2)", x.drive(2), -1);
        Check.due("P11 drive(-1)", x.drive(-1), -1);
        Check.due("P11 drive(MAX)", x.drive(MAX), -1);
        Check.due("P11 nothing more to undo", x.count(8), 3);
    }

    private static void empty() {
        BinsBothSides x = Check.town(TWO);
        Check.due("P12 not at its X", x.empty(0, 0), -2);
        Check.due("P12 none such", x.empty(2, 0), -1);
        Check.due("P12 another how", x.empty(0, 3), -1);
        Check.due("P12 another how", x.empty(0, -1), -1);
        x.drive(0);
        Check.due("P12 how 0", x.empty(0, 0), 38);
        Check.due("P12 the row", Check.row(x), "3 0 12 0");
        Check.due("P12 NOW", x.count(3), 138);
        Check.due("P12 LOAD", x.count(2), 12);
        Check.due("P12 EMPTIED", x.count(5), 3);
        Check.due("P12 nothing is out: moves", x.empty(0, 0), 20);
        Check.due("P12 the row", Check.row(x), "0 0 0 0");
        Check.due("P12 nothing is out: how 1", x.empty(0, 1), 10);
        x.best(0);
        Check.due("P12 nothing is out: how 2", x.empty(0, 2), 0);
        Check.due("P12 the row of 0 SECONDS", Check.row(x), "0 0 0 0");
        x.week();
        x.drive(0);
        Check.due("P12 how 1", x.empty(0, 1), 34);
        x.week();
        x.drive(0);
        Check.due("P12 how 2", x.empty(0, 2), 26);
        barred();
    }

    private static void barred() {
        BinsBothSides x = Check.town("s0:9/0!x1-2");
        x.pause(59);
        Check.due("P12 minute 0", x.empty(0, 1), 9 + 14);
        x.week();
        x.pause(60);
        Check.due("P12 minute 1", x.empty(0, 1), -3);
        Check.due("P12 another how is refused by NONE", x.empty(0, 3), -1);
        x.pause(119);
        Check.due("P12 minute 2, its last second", x.empty(0, 1), -3);
        Check.due("P12 nothing to undo of it", x.count(8), 5);
        x.pause(1);
        Check.due("P12 minute 3", x.empty(0, 1), 9 + 14);
        BinsBothSides y = Check.town("s0:9/0x0-0");
        Check.due("P12 barred from 0 to 0", y.empty(0, 2), -3);
        y.pause(60);
        Check.due("P12 minute 1", y.empty(0, 2), 11);
    }

    private static void emptyFullAndLeft() {
        BinsBothSides x = Check.town("s0:123/456");
        x.set(0, 9);
        Check.due("P12 full, how 0: 1, 2, 3, then 6 does not fit", x.empty(0, 0), (9 + 10 + 11) / 2 + 30);
        Check.due("P12 the row", Check.row(x), "3 0 6 3");
        Check.due("P12 still out", x.bin(0, 1, 2, 2), 1);
        x.week();
        Check.due("P12 full, how 1: 1, 4, 2, then 5 does not fit", x.empty(0, 1), (9 + 12 + 11 + 10 + 1) / 2 + 15);
        Check.due("P12 the row", Check.row(x), "3 0 7 3");
        x.week();
        x.set(4, 3);
        Check.due("P12 full, how 2: 1, 4 left, 2, 5 left, 3, 6 left", x.empty(0, 2),
            (9 + 4 + 3 + 10 + 8 + 3 + 11 + 12 + 3 + 1) / 2);
        Check.due("P12 the row", Check.row(x), "3 3 6 0");
        Check.due("P12 LEFT", x.count(6), 3);
        x.week();
        x.set(0, 5);
        Check.due("P12 3 does not fit, 6 behind it stays out too", x.empty(0, 1),
            (9 + 3 + 10 + 3 + 1) / 2 + 15);
        Check.due("P12 the row", Check.row(x), "2 2 3 2");
        x.week();
        x.set(4, 5);
        Check.due("P12 the row counts what is left ahead of what does not fit", x.empty(0, 1),
            (9 + 12 + 11 + 1) / 2 + 15);
        Check.due("P12 the row", Check.row(x), "2 0 5 4");
        x.set(0, 9);
        Check.due("P12 what is loaded counts", x.empty(0, 0), (10 + 1) / 2 + 30);
        Check.due("P12 the row", Check.row(x), "1 0 2 3");
    }

    private static void tip() {
        BinsBothSides x = Check.town(TWO);
        x.drive(0);
        x.empty(0, 2);
        Check.due("P13 tip()", x.tip(), 700);
        Check.due("P13 the row", Check.row(x), "12");
        Check.due("P13 LOAD", x.count(2), 0);
        Check.due("P13 X", x.count(1), 50);
        Check.due("P13 NOW", x.count(3), 826);
        Check.due("P13 there already", x.tip(), 300);
        Check.due("P13 the row", Check.row(x), "0");
        BinsBothSides y = new BinsBothSides();
        y.set(6, 8);
        y.pause(40);
        Check.due("P13 there in minute 9", y.tip(), -2);
        Check.due("P13 it does not go", y.count(1), 0);
        Check.due("P13 NOW", y.count(3), 40);
        Check.due("P13 what can be undone", y.count(8), 1);
        y.undo();
        y.pause(39);
        Check.due("P13 there in minute 8", y.tip(), 800);
    }

    private static void pause() {
        BinsBothSides x = new BinsBothSides();
        Check.due("P14 pause(9999)", x.pause(9999), 9999);
        Check.due("P14 pause(0)", x.pause(0), 9999);
        Check.due("P14 pause(1)", x.pause(1), 10000);
        Check.due("P14 pause(10000)", x.pause(10000), -1);
        Check.due("P14 pause(-1)", x.pause(-1), -1);
        Check.due("P14 pause(MIN)", x.pause(MIN), -1);
        Check.due("P14 what can be undone", x.count(8), 3);
    }

    private static void week() {
        BinsBothSides x = Check.town(TWO);
        x.set(4, 4);
        x.drive(0);
        x.empty(0, 2);
        Check.due("P15 LEFT", x.count(6), 1);
        Check.due("P15 week()", x.week(), 4);
        Check.due("P15 the state", Check.state(x), "0 0 0 111010");
        Check.due("P15 EMPTIED", x.count(5), 0);
        Check.due("P15 LEFT", x.count(6), 0);
        Check.due("P15 undo()", x.undo(), 2);
        Check.due("P15 the state ahead", Check.state(x), "10 7 117 232010");
    }

    private static void round() {
        BinsBothSides x = Check.town(TWO);
        Check.due("P16 an empty one", Check.round(x, ""), 0);
        Check.due("P16 the row", Check.row(x), "0 0 0");
        Check.due("P16 nothing to undo", x.count(8), 0);
        Check.due("P16 a round", Check.round(x, "g0;e02;g1;p9;e11;t"), 6);
        Check.due("P16 the row", Check.row(x), "0 4 " + (100 + 26 + 200 + 9 + 23 + 500));
        Check.due("P16 as one", x.count(8), 1);
        Check.due("P16 undo()", x.undo(), 0);
        Check.due("P16 the state", Check.state(x), "0 0 0 111010");
        Check.due("P16 till one is refused", Check.round(x, "g0;e00;e10;t"), 2);
        Check.due("P16 the row", Check.row(x), "1 3 138");
        Check.due("P16 X", x.count(1), 10);
        Check.due("P16 as one", x.count(8), 1);
        Check.due("P16 the first is refused", Check.round(x, "g2;t"), 0);
        Check.due("P16 the row", Check.row(x), "1 0 0");
        Check.due("P16 nothing to undo of it", x.count(8), 1);
        Check.due("P16 4 digits", Check.round(x, "p9999;p0;p007"), 3);
        Check.due("P16 the row", Check.row(x), "0 0 10006");
        Check.due("P16 30 acts", Check.round(new BinsBothSides(), "t;t;t;t;t;t;t;t;t;t;t;t;t;t;t;t;t;t;t;t;t;t;t;t;t;t;t;t;t;t"), 30);
        BinsBothSides y = Check.town("s0:1/0");
        Check.due("P16 acts that answer 0 are done", Check.round(y, "g0;p0;g0;t"), 4);
        Check.due("P16 undo()", y.undo(), 0);
        Check.due("P16 one act", Check.round(y, "p0;g1"), 1);
        Check.due("P16 one act can be undone", y.count(8), 1);
        Check.due("P16 g9", Check.round(x, "g9"), 0);
        Check.due("P16 the row", Check.row(x), "1 0 0");
    }

    private static void roundFaults() {
        BinsBothSides x = Check.town(TWO);
        String[] texts = {"x", "g", "gx", "g0;", "g0g", "e", "e0", "e03", "e021", "tt", "t;", "p", "px", "p12345", "g00", ";", "t; ", "g:", "e:0", "e0:", "p:", "g/"};
        int[] places = {0, 1, 1, 3, 2, 1, 2, 2, 3, 1, 2, 1, 1, 5, 2, 0, 2, 1, 1, 2, 1, 1};
        x.tip();
        for (int i = 0; i < texts.length; i++) {
            Check.due("P16 " + texts[i], Check.round(x, texts[i]), -1 - places[i]);
            Check.due("P16 nothing is done by " + texts[i], x.count(3), 800);
        }
        Check.due("P16 the row stays", Check.row(x), "0");
        String thirty = "t;t;t;t;t;t;t;t;t;t;t;t;t;t;t;t;t;t;t;t;t;t;t;t;t;t;t;t;t;t";
        Check.due("P16 60 signs, ended too early", Check.round(x, thirty + ";"), -61);
        Check.due("P16 61 signs", Check.round(x, thirty + ";t"), -61);
        Check.due("P16 61 signs, a wrong one at 59", Check.round(x, thirty + "t;t"), -60);
        Check.due("P16 61 signs, a number goes on", Check.round(x, thirty.substring(0, 58) + "p11"), -61);
        Check.due("P16 nothing is done", x.count(3), 800);
    }

    private static void undo() {
        BinsBothSides x = Check.town(TWO);
        for (int i = 0; i < 20; i++) {
            x.pause(i);
        }
        Check.due("P17 15 are kept", x.count(8), 15);
        Check.due("P17 undo()", x.undo(), 14);
        Check.due("P17 NOW", x.count(3), 171);
        for (int i = 13; i >= 0; i--) {
            Check.due("P17 undo()", x.undo(), i);
            Check.due("P17 NOW", x.count(3), (i + 5) * (i + 4) / 2);
        }
        Check.due("P17 undo() of none", x.undo(), -1);
        Check.due("P17 the latest ones", x.count(3), 10);
        x.pause(1);
        Check.streets(x, "");
        Check.due("P17 an empty streets() does not forget", x.count(8), 1);
        Check.streets(x, "?");
        Check.due("P17 a refused streets() does not forget", x.count(8), 1);
        x.again(0);
        Check.due("P17 a refused again() does not forget", x.count(8), 1);
        Check.streets(x, "s1:1/1");
        Check.due("P17 streets() forgets", x.count(8), 0);
        x.pause(1);
        x.keep(0);
        Check.due("P17 keep() does not forget", x.count(8), 1);
        x.again(0);
        Check.due("P17 again() forgets", x.undo(), -1);
        undoesLoadAboveFull();
    }

    private static void undoesLoadAboveFull() {
        BinsBothSides x = Check.town(TWO);
        Check.round(x, "g0;e02");
        x.tip();
        x.set(0, 5);
        Check.due("P17 undo() of tip()", x.undo(), 1);
        Check.due("P17 LOAD is as it was", x.count(2), 12);
        Check.due("P17 nothing fits", x.set(0, 11), -1);
        Check.due("P17 FULL is LOAD", x.set(0, 12), 5);
    }

    private static void takes() {
        BinsBothSides x = Check.town(TWO);
        String[] rows = {"18 20", "24 10", "26 0"};
        int[] seconds = {38, 34, 26};
        for (int how = 0; how < 3; how++) {
            Check.due("P18 takes(0, " + how + ")", x.takes(0, how), seconds[how]);
            Check.due("P18 the row", Check.row(x), rows[how]);
        }
        Check.due("P18 a dead end, how 0", x.takes(1, 0), 9 + 10);
        Check.due("P18 a dead end, how 1", x.takes(1, 1), 9 + 14);
        Check.due("P18 a dead end, how 2", x.takes(1, 2), 11);
        x.set(0, 1);
        Check.due("P18 FULL without end", x.takes(0, 0), 38);
        x.set(4, 4);
        Check.due("P18 one too heavy takes 3", x.takes(0, 0), (11 + 3 + 12) / 2 + 20);
        Check.due("P18 one too heavy takes 3 whatever HOW", x.takes(0, 2), (15 + 3 + 16) / 2);
        x.set(1, 3);
        Check.due("P18 begun ones too", x.takes(0, 0), (11 + 3 + 12 + 2) / 3 + 20);
        x.set(4, 1);
        BinsBothSides y = Check.town("s0:00/99");
        y.set(4, 8);
        Check.due("P18 no 11 more for one that is LEFT", y.takes(0, 1), 3 + 10);
        Check.due("P18 nothing changes", Check.state(y), "0 0 0 0011");
        Check.due("P18 none such", x.takes(2, 0), -1);
        Check.due("P18 another how", x.takes(0, 3), -1);
        Check.due("P18 another how", x.takes(0, -1), -1);
    }

    private static void best() {
        BinsBothSides x = Check.town(TWO);
        Check.due("P19 best(0)", x.best(0), 2);
        Check.due("P19 the row", Check.row(x), "38 34 26");
        Check.rule(x, "5+c*40");
        Check.due("P19 carrying is slow", x.best(0), 1);
        Check.due("P19 the row", Check.row(x), "28 23 96");
        BinsBothSides y = Check.town("s0:0/0");
        Check.due("P19 no bins", y.best(0), 2);
        Check.due("P19 the row", Check.row(y), "10 5 0");
        BinsBothSides z = Check.town("s0:1/0!");
        Check.rule(z, "20+c*4");
        Check.due("P19 of equal ones the least", z.best(0), 2);
        Check.due("P19 the row", Check.row(z), "20 24 14");
        Check.rule(z, "20+c*16");
        Check.due("P19 of equal ones the least", z.best(0), 0);
        Check.due("P19 the row", Check.row(z), "20 24 20");
        Check.due("P19 none such", x.best(2), -1);
        Check.due("P19 none such", x.best(-1), -1);
        Check.due("P19 the row stays", Check.row(x), "28 23 96");
    }

    private static void less() {
        BinsBothSides x = Check.town(TWO);
        Check.due("P20 less(0)", x.less(0), 26);
        Check.due("P20 the row", Check.row(x), "2");
        x.set(1, 1);
        Check.due("P20 there is but one", x.less(0), -2);
        Check.due("P20 none such", x.less(2), -1);
        Check.due("P20 the row stays", Check.row(x), "2");
        x.set(1, 4);
        Check.due("P20 4 to 3: 13 to 18", x.less(0), 18 - 13);
        Check.rule(x, "m*100");
        Check.due("P20 the rule counts them, too", x.less(0), (900 + 16 + 2) / 3 - (1200 + 16) / 4);
        Check.rule(x, "(m=4)*500+1");
        int all = (3 * 501 + 16 + 3) / 4;
        Check.due("P20 below 0", x.less(0), (3 + 16 + 2) / 3 - all);
        Check.due("P20 the row", Check.row(x), "2");
    }

    private static void line() {
        BinsBothSides x = Check.town("s0:11111111/11111111");
        Check.rule(x, "1");
        x.set(1, 1);
        Check.due("P21 line(0)", x.line(0), lineByHand());
        BinsBothSides y = Check.town("s0:3/3!");
        Check.rule(y, "c*100");
        Check.due("P21 none", y.line(0), 0);
        Check.due("P21 the row", Check.row(y), "11 52");
        BinsBothSides z = Check.town(TWO);
        Check.due("P21 all", z.line(0), 3);
        Check.due("P21 the row", Check.row(z), "-1 -1");
        z.drive(0);
        z.empty(0, 2);
        Check.due("P21 none is out", z.line(0), 0);
        Check.due("P21 the row", Check.row(z), "-1 -1");
        Check.due("P21 none such", z.line(2), -1);
        Check.due("P21 none such", z.line(MAX), -1);
    }

    /** By sums: n bins carried take n + 4 times their blocks; driven: n and 80, or n and 11 a right one and 40. */
    private static int lineByHand() {
        int carried = 0;
        int rights = 0;
        for (int n = 1; n <= 16; n++) {
            carried += 1 + 4 * ((n + 1) / 2);
            rights += n % 2 == 0 ? 1 : 0;
            if (carried > Math.min(n + 80, n + 11 * rights + 40)) {
                return n - 1;
            }
        }
        return 16;
    }

    private static void hill() {
        BinsBothSides x = Check.town("s10:35/40u;s30:9/0;s40:1/0d");
        Check.due("P22 no hill in the rule", x.hill(0), 0);
        Check.rule(x, "20+u*10");
        Check.due("P22 up", x.hill(0), (90 + 16) / 2 - (30 + 16) / 2);
        Check.due("P22 flat", x.hill(1), 12 - 7);
        Check.due("P22 down already", x.hill(2), 0);
        Check.rule(x, "20-u*10");
        Check.due("P22 more: below 0", x.hill(0), (30 + 16) / 2 - (90 + 16) / 2);
        Check.due("P22 HILL stays", x.street(0, 2), 1);
        Check.dueThrows("P22 none such", () -> x.hill(3));
        Check.dueThrows("P22 none such", () -> x.hill(-1));
    }

    private static void wet() {
        BinsBothSides x = Check.town(TWO);
        Check.due("P23 wet(0, 9)", x.wet(0, 9), 5 + 9 + 7);
        Check.due("P23 the row", Check.row(x), "0");
        x.set(3, 2);
        x.set(4, 15);
        Check.due("P23 double", x.wet(0, 9), 11 + 19 + 15);
        Check.due("P23 one is LEFT", Check.row(x), "1");
        x.set(2, 9);
        Check.due("P23 no rain", x.wet(0, 0), 24);
        Check.due("P23 RAIN stays", x.set(2, 9), 9);
        x.set(3, 1);
        x.drive(0);
        x.empty(0, 2);
        Check.due("P23 none is out", x.wet(0, 9), 0);
        Check.due("P23 the row", Check.row(x), "0");
        int[][] wrong = {{2, 0}, {-1, 0}, {0, -1}, {0, 10}};
        for (int[] call : wrong) {
            Check.due("P23 wet(" + call[0] + ", " + call[1] + ")", x.wet(call[0], call[1]), -1);
        }
    }

    private static void order() {
        BinsBothSides x = Check.town(TWO);
        Check.due("P24 order 01", Check.order(x, "01"), 100 + 26 + 200 + 11 + 500);
        Check.due("P24 the row", Check.row(x), "1 0");
        Check.due("P24 nothing changes", Check.state(x), "0 0 0 111010");
        x.set(0, 20);
        Check.due("P24 it tips between", Check.order(x, "01"), 100 + 26 + 700 + 200 + 11 + 500);
        Check.due("P24 the row", Check.row(x), "2 0");
        x.set(0, 21);
        Check.due("P24 all fits", Check.order(x, "01"), 837);
        Check.due("P24 the row", Check.row(x), "1 0");
        x.set(0, 8);
        Check.due("P24 some stay out", Check.order(x, "01"), 100 + (15 + 16 + 1) / 2 + 700 + 200 + 0 + 500);
        Check.due("P24 the row", Check.row(x), "2 2");
        x.set(0, 100);
        Check.due("P24 at the end it goes to TIP, LOAD or not", Check.order(Check.town("s0:0/0"), "0"), 800);
        String[] wrong = {"", "2", "00", "010", "x", "0x", "01x", "0 "};
        int[] places = {0, 0, 1, 2, 0, 1, 2, 1};
        for (int i = 0; i < wrong.length; i++) {
            Check.due("P24 " + wrong[i], Check.order(x, wrong[i]), -1 - places[i]);
        }
        BinsBothSides six = Check.town("s0:0/0;s0:0/0;s0:0/0;s0:0/0;s0:0/0;s0:0/0");
        Check.due("P24 six", Check.order(six, "543210"), 800);
        Check.due("P24 a seventh", Check.order(six, "5432100"), -7);
        x.set(6, 13);
        Check.due("P24 in minute 8", Check.order(x, "01"), 837);
        x.set(0, 20);
        Check.due("P24 there in minute 17", Check.order(x, "01"), -200);
        x.set(6, 7);
        Check.due("P24 TIP is shut when it tips first", Check.order(x, "01"), -200);
        Check.due("P24 the row stays", Check.row(six), "1 0");
    }

    private static void orderWaits() {
        BinsBothSides x = Check.town("s6:1/0x1-1;s12:1/0x2-4");
        // there at 60, in minute 1, it waits till 120; done at 127, there at 187, in minute 3, it waits till 300
        Check.due("P24 it waits", Check.order(x, "01"), 300 + 7 + 380 + 300);
        x.pause(60);
        Check.due("P24 NOW is 60, it waits at 1 till 300", Check.order(x, "10"), 300 + 7 + 60 + 7 + 440 + 300 - 60);
        Check.round(x, "g0");
        Check.due("P24 LOAD, X, NOW as all is: 120, minute 2", Check.order(x, "0"), 7 + 440 + 300);
    }

    private static void soonest() {
        BinsBothSides x = Check.town("s40:1/0;s10:1/0;s20:1/0");
        Check.due("P25 soonest(7)", x.soonest(7), 500 + 300 + 21);
        Check.due("P25 the row", Check.row(x), "1 2 0");
        Check.due("P25 soonest(5)", x.soonest(5), 500 + 300 + 14);
        Check.due("P25 the row", Check.row(x), "2 0");
        Check.due("P25 soonest(1)", x.soonest(1), 500 + 300 + 7);
        Check.due("P25 nothing told", x.soonest(0), -1);
        Check.due("P25 none such", x.soonest(8), -1);
        Check.due("P25 none such", x.soonest(MIN), -1);
        Check.due("P25 the row stays", Check.row(x), "0");
        x.set(6, 8);
        Check.due("P25 in minute 8", x.soonest(1), 807);
        Check.due("P25 one order alone", x.soonest(7), 821);
        x.set(6, 7);
        Check.due("P25 TIP is shut for all", x.soonest(7), -2);
        BinsBothSides y = Check.town("s10:1/0;s10:1/0;s10:1/0");
        y.soonest(7);
        Check.due("P25 of as quick ones the least row", Check.row(y), "0 1 2");
    }

    private static void most() {
        BinsBothSides x = Check.town("s40:1/0;s10:1/0;s20:1/0");
        Check.due("P26 all", x.most(7, 821), 3);
        Check.due("P26 the row", Check.row(x), "7");
        Check.due("P26 two of them, the least", x.most(7, 820), 2);
        Check.due("P26 the row", Check.row(x), "3");
        Check.due("P26 of those told", x.most(6, 99999), 2);
        Check.due("P26 the row", Check.row(x), "6");
        Check.due("P26 none by then", x.most(7, 806), 0);
        Check.due("P26 the row", Check.row(x), "0");
        x.pause(1);
        Check.due("P26 NOW counts", x.most(7, 821), 2);
        Check.due("P26 nothing told", x.most(0, 0), 0);
        Check.due("P26 the row", Check.row(x), "0");
        x.set(6, 0);
        Check.due("P26 TIP is shut", x.most(7, 99999), 0);
        int[][] wrong = {{8, 5}, {-1, 5}, {1, -1}, {1, 100000}};
        for (int[] call : wrong) {
            Check.due("P26 most(" + call[0] + ", " + call[1] + ")", x.most(call[0], call[1]), -1);
        }
    }

    private static void tipnow() {
        BinsBothSides x = Check.town(TWO);
        Check.due("P27 LOAD is 0", x.tipnow(0), 0);
        Check.due("P27 the row", Check.row(x), (500 + 300 + 400 + 26 + 700) + " " + (100 + 26 + 700));
        Check.round(x, "g0;e02");
        Check.due("P27 behind it", x.tipnow(1), 0);
        Check.due("P27 the row", Check.row(x), (700 + 200 + 11 + 500) + " " + (200 + 11 + 500));
        x.set(0, 20);
        Check.due("P27 by tipping now", x.tipnow(1), 2);
        Check.due("P27 the row", Check.row(x), "1411 -1");
        x.set(6, 0);
        x.set(5, 30);
        Check.due("P27 TIP is never shut", x.tipnow(1), 2);
        Check.due("P27 the row", Check.row(x), (500 + 0 + 11 + 300) + " -1");
        Check.due("P27 none such", x.tipnow(2), -1);
        x.tip();
        BinsBothSides y = Check.town(TWO);
        y.set(0, 11);
        y.best(0);
        Check.due("P27 it does not fit at all", y.tipnow(0), -2);
        Check.due("P27 the row stays", Check.row(y), "38 34 26");
        y.set(4, 4);
        Check.due("P27 one too heavy is not loaded", y.tipnow(0), 0);
        Check.due("P27 nothing is barred", y.tipnow(1), 0);
    }

    private static void share() {
        BinsBothSides x = Check.town("s0:1/0;s0:2/0;s0:3/0;s0:9/9");
        Check.rule(x, "w*10-4");
        x.set(1, 1);
        // 10, 20, 30 and 2 * 90
        Check.due("P28 share(7)", x.share(7), 30);
        Check.due("P28 the row", Check.row(x), "3 30");
        Check.due("P28 share(15)", x.share(15), x.takes(3, 2));
        x.share(15);
        Check.due("P28 the row", Check.row(x), "7 60");
        Check.due("P28 one", x.share(2), 20);
        Check.due("P28 the row", Check.row(x), "0 0");
        Check.due("P28 none", x.share(0), 0);
        Check.due("P28 the row", Check.row(x), "0 0");
        Check.due("P28 none such", x.share(16), -1);
        Check.due("P28 none such", x.share(-1), -1);
    }

    private static void holiday() {
        BinsBothSides x = Check.town("s0:1/0;s0:2/0;s0:3/0;s0:4/0");
        Check.rule(x, "w*10-4");
        x.set(1, 1);
        // 10, 20, 30, 40
        x.dayOf(3, 1);
        Check.due("P29 all on the next day", x.holiday(0, 100), 1);
        Check.due("P29 the row", Check.row(x), "1 1 1");
        Check.due("P29 one less", x.holiday(0, 99), 2);
        Check.due("P29 the least sum, then the least row", Check.row(x), "1 1 2");
        Check.due("P29 60 on day 2", x.holiday(0, 60), 2);
        Check.due("P29 the row", Check.row(x), "1 2 2");
        Check.due("P29 40", x.holiday(0, 40), 3);
        Check.due("P29 the row", Check.row(x), "2 2 3");
        Check.due("P29 30", x.holiday(0, 30), 3);
        Check.due("P29 the row", Check.row(x), "2 2 3");
        Check.due("P29 it can't be", x.holiday(0, 29), -2);
        Check.due("P29 the row stays", Check.row(x), "2 2 3");
        Check.due("P29 none on that day", x.holiday(2, 0), 0);
        Check.due("P29 an empty row", x.count(9), 0);
        x.dayOf(0, 6);
        Check.due("P29 no later day", x.holiday(6, 99999), -2);
        int[][] wrong = {{-1, 0}, {7, 0}, {0, -1}, {0, 100000}};
        for (int[] call : wrong) {
            Check.due("P29 holiday(" + call[0] + ", " + call[1] + ")", x.holiday(call[0], call[1]), -1);
        }
        BinsBothSides y = Check.town("s0:0/0;s0:5/0");
        y.dayOf(1, 1);
        Check.due("P29 a day that is over already takes none of 0 seconds", y.holiday(0, 1), 2);
        Check.due("P29 the row", Check.row(y), "2");
    }

    private static void busiest() {
        BinsBothSides x = Check.town("s0:1/0;s0:2/0;s0:3/0;s0:4/0");
        Check.rule(x, "w*10-4");
        x.set(1, 1);
        Check.due("P30 all on day 0", x.busiest(), 0);
        Check.due("P30 the row", Check.row(x), "100 0");
        x.dayOf(0, 5);
        x.dayOf(3, 5);
        Check.due("P30 of equal ones the first", x.busiest(), 0);
        Check.due("P30 the row", Check.row(x), "50 0");
        x.dayOf(1, 5);
        Check.due("P30 day 5", x.busiest(), 5);
        Check.due("P30 the row", Check.row(x), "70 0");
        BinsBothSides y = Check.town("s0:1/0;s0:2/0");
        Check.due("P30 no day without", y.busiest(), 0);
    }

    private static void weighed() {
        BinsBothSides x = Check.town(TWO);
        Check.due("P31 weighed(3, 9999)", x.weighed(3, 9999), 1);
        Check.due("P31 none told", x.weighed(0, 0), 2);
        int[][] wrong = {{4, 0}, {-1, 0}, {1, -1}, {1, 10000}, {MIN, 0}};
        for (int[] call : wrong) {
            Check.due("P31 weighed(" + call[0] + ", " + call[1] + ")", x.weighed(call[0], call[1]), -1);
        }
        for (int i = 3; i <= 10; i++) {
            Check.due("P31 weighed() no. " + i, x.weighed(1, i), i);
        }
        Check.due("P31 an eleventh", x.weighed(1, 1), -1);
        Check.due("P31 count(7)", x.count(7), 10);
        Check.due("P32 forget()", x.forget(), 10);
        Check.due("P32 forgotten", x.count(7), 0);
        Check.due("P32 forget() of none", x.forget(), 0);
    }

    private static void rubble() {
        BinsBothSides x = Check.town(TWO);
        Check.due("P33 nothing was weighed", x.rubble(), (4 + 2) * 99);
        Check.due("P33 the row", Check.row(x), "0 0 0 1");
        x.weighed(3, 12 + 9 + 5);
        Check.due("P33 5 more, of any house", x.rubble(), 6);
        Check.due("P33 the row", Check.row(x), "0 0 0 5");
        x.weighed(1, 12);
        Check.due("P33 not of street 0", x.rubble(), 2);
        Check.due("P33 the row", Check.row(x), "1 0 0 5");
        x.set(2, 9);
        Check.due("P33 RAIN as it is", x.rubble(), 0);
        Check.due("P33 nothing without", x.count(9), 0);
        x.set(2, 0);
        Check.round(x, "g0;e02");
        x.set(4, 1);
        Check.due("P33 out or not, LIFT left aside", x.rubble(), 2);
        x.forget();
        x.weighed(1, 12 + 99);
        Check.due("P33 99 more", x.rubble(), 4);
        x.forget();
        x.weighed(1, 12 + 100);
        Check.due("P33 100 more", x.rubble(), 0);
        x.forget();
        x.weighed(1, 12);
        Check.due("P33 street 0 is right: any d of street 1", x.rubble(), 2 * 99);
        Check.due("P33 the row", Check.row(x), "1 0 0 1");
        x.weighed(2, 8);
        Check.due("P33 less than it should be", x.rubble(), 0);
        x.forget();
        x.weighed(1, 14);
        x.weighed(1, 15);
        Check.due("P33 not the same each time", x.rubble(), 0);
    }

    private static void whose() {
        BinsBothSides x = Check.town(TWO);
        Check.due("P34 nothing was weighed", x.whose(), 3);
        Check.due("P34 the row", Check.row(x), "1");
        x.weighed(1, 12);
        Check.due("P34 street 1 alone", x.whose(), 2);
        Check.due("P34 the row", Check.row(x), "1");
        x.weighed(3, 22);
        Check.due("P34 street 1 alone", x.whose(), 2);
        Check.due("P34 not without any", Check.row(x), "0");
        x.weighed(0, 1);
        Check.due("P34 none", x.whose(), 0);
        Check.due("P34 the row", Check.row(x), "0");
    }

    private static void next() {
        Check.due("P35 no streets", new BinsBothSides().next(), -2);
        BinsBothSides x = Check.town("s0:1/1;s0:11/11;s0:111/111");
        Check.due("P35 2, 4 and 6 houses", x.next(), 3);
        Check.due("P35 the row", Check.row(x), "" + 6 * 99);
        x.weighed(7, 12 + 4);
        Check.due("P35 2, 4 and 6 pairs", x.next(), 3);
        Check.due("P35 the row", Check.row(x), "6");
        x.weighed(4, 6);
        Check.due("P35 2 and 4 pairs", x.next(), 1);
        Check.due("P35 the row", Check.row(x), "4");
        x.weighed(1, 2);
        Check.due("P35 4 pairs of one street: none is as good", x.next(), 0);
        Check.due("P35 the row", Check.row(x), "4");
        x.weighed(0, 1);
        Check.due("P35 no such pair", x.next(), -2);
        Check.due("P35 the row stays", Check.row(x), "4");
    }

    private static void right() {
        BinsBothSides x = Check.town("s0:11111111/11111111;s0:11/00;s0:0/0");
        String[] rows = {"0 1", "1 100", "1 25", "9 100", "4 25", "1 4", "9 25", "49 100", "16 25", "81 100", "1 1"};
        for (int p = 0; p <= 10; p++) {
            Check.due("P36 right(1, " + p + ")", x.right(1, p), 0);
            Check.due("P36 the row", Check.row(x), rows[p]);
        }
        x.right(0, 1);
        Check.due("P36 16 bins", Check.row(x), "1 10000000000000000");
        x.right(0, 9);
        Check.due("P36 16 bins", Check.row(x), "1853020188851841 10000000000000000");
        x.right(0, 0);
        Check.due("P36 0 by 1", Check.row(x), "0 1");
        x.right(2, 0);
        Check.due("P36 no bins", Check.row(x), "1 1");
        int[][] wrong = {{3, 0}, {-1, 0}, {0, -1}, {0, 11}};
        for (int[] call : wrong) {
            Check.due("P36 right(" + call[0] + ", " + call[1] + ")", x.right(call[0], call[1]), -1);
        }
    }

    private static void care() {
        BinsBothSides x = Check.town("s0:11111111/11111111;s0:11/00;s0:0/0");
        Check.due("P37 two bins, 25", x.care(1, 25), 5);
        Check.due("P37 two bins, 26", x.care(1, 26), 6);
        Check.due("P37 two bins, 0", x.care(1, 0), 0);
        Check.due("P37 two bins, 1", x.care(1, 1), 1);
        Check.due("P37 two bins, 82", x.care(1, 82), 10);
        Check.due("P37 two bins, 100", x.care(1, 100), 10);
        Check.due("P37 16 bins, 18", x.care(0, 18), 9);
        Check.due("P37 16 bins, 19", x.care(0, 19), 10);
        Check.due("P37 no bins", x.care(2, 100), 0);
        int[][] wrong = {{3, 0}, {-1, 0}, {0, -1}, {0, 101}};
        for (int[] call : wrong) {
            Check.due("P37 care(" + call[0] + ", " + call[1] + ")", x.care(call[0], call[1]), -1);
        }
    }

    private static void weeks() {
        Check.due("P38 no streets", new BinsBothSides().weeks(1, 1, 5), -1);
        BinsBothSides x = Check.town(TWO);
        x.pause(7);
        Check.due("P38 all out", x.weeks(1, 3, 10), 3);
        Check.due("P38 the row", Check.row(x), "837 837");
        Check.due("P38 none out", x.weeks(1, 20, 0), 20);
        Check.due("P38 the row", Check.row(x), "800 800");
        Check.due("P38 nothing changes", Check.state(x), "0 0 7 111010");
        // seed 1: R is 1103527590, by 65536: 16838, of 10: 8; so the first bin is out from p 9 on
        BinsBothSides y = Check.town("s0:1/0");
        y.set(5, 0);
        y.weeks(1, 1, 8);
        Check.due("P38 8 is not below 8", Check.row(y), "300 300");
        y.weeks(1, 1, 9);
        Check.due("P38 8 is below 9", Check.row(y), "307 307");
        x.set(6, 0);
        Check.due("P38 TIP is shut", x.weeks(1, 20, 5), 0);
        Check.due("P38 the row", Check.row(x), "-1 -1");
        int[][] wrong = {{0, 5}, {21, 5}, {1, -1}, {1, 11}, {MIN, 5}, {MAX, 5}};
        for (int[] call : wrong) {
            Check.due("P38 weeks(1, " + call[0] + ", " + call[1] + ")", x.weeks(1, call[0], call[1]), -1);
        }
    }

    private static void keep() {
        BinsBothSides x = Check.town(TWO);
        Check.due("P40 nothing kept", x.again(0), false);
        Check.due("P39 keep(2)", x.keep(2), true);
        Check.due("P39 keep(3)", x.keep(3), false);
        Check.due("P39 keep(-1)", x.keep(-1), false);
        Check.due("P40 again(3)", x.again(3), false);
        Check.due("P40 again(-1)", x.again(-1), false);
        Check.round(x, "g0;e02");
        Check.due("P39 keep(0)", x.keep(0), true);
        String then = Check.state(x);
        x.week();
        Check.due("P40 again(0)", x.again(0), true);
        Check.due("P40 the state", Check.state(x), then);
        Check.due("P40 again(2)", x.again(2), true);
        Check.due("P40 the state", Check.state(x), "0 0 0 111010");
        Check.due("P40 again(0), more than once", x.again(0), true);
        x.tip();
        x.set(0, 11);
        Check.due("P40 FULL is less than LOAD was", x.again(0), false);
        Check.due("P40 again(1)", x.again(1), false);
        x.set(0, 12);
        Check.due("P40 FULL is LOAD", x.again(0), true);
        Check.streets(x, "");
        Check.due("P40 an empty streets()", x.again(0), true);
        Check.streets(x, "s1:1/1");
        Check.due("P40 streets came since", x.again(0), false);
        Check.due("P39 keep(0)", x.keep(0), true);
        Check.due("P40 kept since", x.again(0), true);
    }

    private static void count() {
        BinsBothSides x = Check.town(TWO);
        x.set(4, 4);
        Check.round(x, "g0;e02");
        x.weighed(0, 0);
        x.sign(1);
        int[] want = {2, 10, 7, 117, 1, 2, 1, 1, 1, 3, 4, 100};
        for (int what = 0; what < want.length; what++) {
            Check.due("P41 count(" + what + ")", x.count(what), want[what]);
        }
        Check.due("P41 count(12)", x.count(12), -100);
        Check.due("P41 count(-1)", x.count(-1), -100);
        Check.due("P41 count(MIN)", x.count(MIN), -100);
    }

    private static void row() {
        BinsBothSides x = Check.town(TWO);
        x.best(0);
        Check.due("P42 row(0)", x.row(0), 38);
        Check.due("P42 row(2)", x.row(2), 26);
        Check.dueThrows("P42 row(3)", () -> x.row(3));
        Check.dueThrows("P42 row(-1)", () -> x.row(-1));
        Check.dueThrows("P42 row(MAX)", () -> x.row(MAX));
        x.drive(0);
        x.hill(0);
        x.care(0, 5);
        x.week();
        x.undo();
        x.forget();
        x.dayOf(0, 0);
        Check.due("P42 calls that do not say so leave it", Check.row(x), "38 34 26");
    }

    private static void textIsEmptied() {
        BinsBothSides x = Check.town(TWO);
        Check.streets(x, "?");
        Check.due("streets(), refused", x.count(10), 0);
        Check.rule(x, "1+");
        Check.due("rule(), refused", x.count(10), 0);
        Check.rule(x, "1");
        Check.due("rule()", x.count(10), 0);
        Check.round(x, "t;");
        Check.due("round(), refused", x.count(10), 0);
        Check.round(x, "t");
        Check.due("round()", x.count(10), 0);
        Check.order(x, "00");
        Check.due("order(), refused", x.count(10), 0);
        Check.order(x, "0");
        Check.due("order()", x.count(10), 0);
        x.sign(0);
        x.week();
        x.soonest(3);
        x.drive(9);
        Check.due("others leave it", x.count(10), 4);
    }
}
