/**
 * The boundary cases that the document names, sentence by sentence: the least and the greatest that is taken and what is
 * just beyond, the empty and the full, what wraps around. Refused calls are in RefusedTests too: that they change nothing.
 */
public final class EdgeTests {
    private static final int MIN = Integer.MIN_VALUE;
    private static final int MAX = Integer.MAX_VALUE;

    public static void main(String[] args) {
        houses();
        heavy();
        ruleValues();
        newObject();
        sign();
        end();
        streetsRoom();
        streetsEnds();
        streetsParts();
        streetsSigns();
        ruleEnds();
        ruleParts();
        street();
        bin();
        set();
        dayOf();
        sheet();
        drive();
        empty();
        emptyFull();
        emptyLeft();
        tip();
        pause();
        week();
        round();
        roundEnds();
        undo();
        takes();
        best();
        less();
        line();
        hill();
        wet();
        orderText();
        orderTip();
        orderBarred();
        ordersWithLoad();
        soonest();
        most();
        tipnow();
        share();
        holiday();
        busiest();
        weighed();
        rubble();
        whose();
        next();
        right();
        care();
        weeks();
        weeksDraws();
        keep();
        count();
        row();
        Check.end("EdgeTests");
    }

    private static BinsBothSides oneMan(String lines, String rule) {
        BinsBothSides x = Check.town(lines);
        x.set(1, 1);
        Check.due("the rule " + rule, Check.rule(x, rule), 0);
        return x;
    }

    // ---- terms

    /** "X 0 .. 99, LONG 1 .. 8", "WEIGHT 0 .. 9 (0: none)", "out (at first, if WEIGHT is not 0)", "DAY 0 .. 6 (at first 0)". */
    private static void houses() {
        BinsBothSides x = Check.town("s0:0/9;s99:12345678/00000001");
        Check.due("T1 the least X", x.street(0, 0), 0);
        Check.due("T1 the greatest X", x.street(1, 0), 99);
        Check.due("T1 the least LONG", x.street(0, 1), 1);
        Check.due("T1 the greatest LONG", x.street(1, 1), 8);
        Check.due("T1 WEIGHT 0 is none", x.bin(0, 0, 0, 2), 0);
        Check.due("T1 WEIGHT 9 is out", x.bin(0, 1, 0, 2), 1);
        Check.due("T1 WEIGHT 1 is out, in the last block", x.bin(1, 1, 7, 2), 1);
        Check.due("T1 DAY at first", x.street(1, 4), 0);
        Check.due("T1 no hill", x.street(0, 2), 0);
        Check.due("T1 no dead end", x.street(0, 3), 0);
    }

    /** "WEIGHT times TWICE times (10 and RAIN) by 10 (cut). If that is more than LIFT, it is LEFT". */
    private static void heavy() {
        BinsBothSides x = Check.town("s0:19/50");
        Check.due("T1 RAIN 0", x.bin(0, 0, 0, 1), 1);
        x.set(2, 9);
        Check.due("T1 1 times 19 by 10, cut", x.bin(0, 0, 0, 1), 1);
        Check.due("T1 9 times 19 by 10, cut", x.bin(0, 0, 1, 1), 17);
        x.set(3, 2);
        Check.due("T1 cut once, at the end", x.bin(0, 0, 1, 1), 34);
        Check.due("T1 none", x.bin(0, 1, 1, 1), 0);
        x.set(4, 34);
        x.empty(0, 2);
        Check.due("T1 as much as LIFT is not LEFT", x.bin(0, 0, 1, 2), 2);
        x.week();
        x.set(4, 33);
        x.empty(0, 2);
        Check.due("T1 more than LIFT is LEFT", x.bin(0, 0, 1, 2), 3);
        Check.due("T1 another one is not", x.bin(0, 1, 0, 2), 2);
    }

    /** "two; 1 or 0", "from the left", "by 0: 0; cut to 0", "any many", "As ints, put to 1 .. 999". */
    private static void ruleValues() {
        BinsBothSides x = Check.town("s0:35/40");
        String[] rules = {"(1<2)+5", "(2<2)+5", "(3<2)+5", "(3>2)+5", "(2>2)+5", "(1>2)+5", "(2=2)+5", "(2=3)+5",
            "9-3-2", "9-3+2", "99/5*3", "99*5/3", "7/0+2", "0/0+2", "9/(b-b)+2", "9+7/-2", "9+-7/2", "9--7/-2",
            "----7", "9+---7", "998", "999", "999+1", "1", "0", "0-1", "000", "007",
            "512*512*512*16", "512*512*512*16-1", "512*512*512*16/-1", "-(512*512*512*16)+1-(0-2)", "512*512*512*32+6"};
        int[] of = {6, 5, 5, 6, 5, 5, 6, 5,
            4, 8, 57, 165, 2, 2, 2, 6, 6, 6,
            7, 2, 998, 999, 999, 1, 1, 1, 1, 7,
            1, 999, 1, 1, 6};
        for (int i = 0; i < rules.length; i++) {
            Check.due("T1 " + rules[i], Check.rule(x, rules[i]), 0);
            Check.due("T1 seconds by " + rules[i], x.bin(0, 0, 0, 3), of[i]);
        }
        x.set(2, 9);
        x.set(3, 2);
        Check.rule(x, "w*10+r");
        Check.due("T1 w is HEAVY, r is RAIN", x.bin(0, 0, 1, 3), 10 * (5 * 2 * 19 / 10) + 9);
        Check.due("T1 w of a house without a bin", x.bin(0, 1, 1, 3), 9);
        x.set(2, 0);
        Check.due("T1 r without rain", x.bin(0, 1, 1, 3), 1);
        Check.due("T1 none is 8+w", Check.rule(x, ""), 0);
        Check.due("T1 seconds by 8+w", x.bin(0, 0, 1, 3), 18);
    }

    // ---- the town

    /** "No STREETS", and what the terms say is "at first". */
    private static void newObject() {
        BinsBothSides x = new BinsBothSides();
        Check.dueThrows("P1 no street", () -> x.street(0, 0));
        Check.due("P1 no bins", x.count(4) + x.count(5) + x.count(6), 0);
        Check.due("P1 LOAD, X, NOW", Check.state(x), "0 0 0 ");
        Check.due("P1 no row", x.count(9), 0);
        Check.due("P1 no text", x.end(1), false);
        Check.due("P1 nothing was weighed", x.forget(), 0);
        Check.due("P1 nothing to undo", x.undo(), -1);
        Check.due("P1 nothing kept", x.again(0) || x.again(1) || x.again(2), false);
        Check.due("P1 another new object is another one", Check.town("s1:1/1").count(0) + new BinsBothSides().count(0), 1);
    }

    /** "Refused: there would be more than 80"; "the highest byte first". */
    private static void sign() {
        BinsBothSides x = new BinsBothSides();
        Check.due("P2 the first four", x.sign(MIN), 4);
        x.end(1);
        Check.due("P2 behind one", x.sign(0), 5);
        for (int length = 9; length <= 77; length += 4) {
            Check.due("P2 more", x.sign(0), length);
        }
        Check.due("P2 81 would be more than 80", x.sign(0), -1);
        Check.due("P2 what was there stays", x.count(10), 77);
        x.end(76);
        Check.due("P2 80 are not more", x.sign(0), 80);
        Check.due("P2 84 are more", x.sign(0), -1);
        x.end(0);
        x.sign('1' << 24 | '+' << 16 | '(' << 8 | '2');
        x.sign(')' << 24 | 255 << 16);
        x.end(5);
        Check.due("P2 highest first", x.rule(), 0);
        x.sign('1' << 24 | '+' << 16 | 255 << 8);
        x.end(3);
        Check.due("P2 a sign 255", x.rule(), -3);
        x.sign('1' << 24 | 200 << 16 | '1' << 8);
        x.end(3);
        Check.due("P2 a sign 200", x.rule(), -2);
    }

    /** "false if it has not so many, or n is below 0". */
    private static void end() {
        BinsBothSides x = new BinsBothSides();
        Check.due("P3 none of none", x.end(0), true);
        Check.due("P3 one of none", x.end(1), false);
        Check.due("P3 below 0 of none", x.end(-1), false);
        Check.say(x, "s7:3/45");
        Check.due("P3 as many as it has", x.end(7), true);
        Check.due("P3 one more than it has", x.end(8), false);
        Check.due("P3 below 0", x.end(-1), false);
        Check.due("P3 refused, all stay", x.count(10), 7);
        Check.due("P3 its first six", x.end(6), true);
        Check.due("P3 what was cut is gone", x.end(7), false);
        Check.due("P3 its first six tell a street", x.streets(), 1);
        Check.due("P3 the text was emptied", x.end(1), false);
    }

    /** "at most 6", "an empty one: nothing", "the first sign of a LINE for which there is no room", "Nothing of it comes". */
    private static void streetsRoom() {
        BinsBothSides x = new BinsBothSides();
        Check.due("P4 an empty one of none", Check.streets(x, ""), 0);
        Check.due("P4 one", Check.streets(x, "s1:1/0"), 1);
        Check.due("P4 six more have no room", Check.streets(x, "s1:1/0;s2:1/0;s3:1/0;s4:1/0;s5:1/0;s6:1/0"), -1 - 35);
        Check.due("P4 nothing of it comes", x.count(0), 1);
        Check.due("P4 no bin of it comes", x.count(4), 1);
        Check.due("P4 a fault ahead of it is first", Check.streets(x, "s1:1/0;s2:1/0;s3:1/0;s4:1/0;s5:1/?;s6:1/0"), -1 - 33);
        Check.due("P4 five more", Check.streets(x, "s2:1/0;s3:1/0;s4:1/0;s5:1/0;s6:1/0"), 5);
        Check.due("P4 they come behind", x.street(0, 0) * 10 + x.street(5, 0), 16);
        Check.due("P4 a seventh", Check.streets(x, "s7:1/0"), -1);
        Check.due("P4 a wrong seventh", Check.streets(x, ";"), -1);
        Check.due("P4 an empty one of six", Check.streets(x, ""), 0);
        Check.due("P4 six", x.count(0), 6);
        BinsBothSides y = new BinsBothSides();
        Check.due("P4 the second line can't", Check.streets(y, "s1:1/1;s1:1"), -1 - 11);
        Check.due("P4 nothing of it comes", y.count(0), 0);
    }

    /** "its end, if it ends too early"; "76, if it has more and the first 76 could go on or end". */
    private static void streetsEnds() {
        String all = "s12:34/56!ux1-2;s3:4/5";
        for (int length = 1; length <= all.length(); length++) {
            boolean fine = length >= 9 && length <= 11 || length == 15 || length == 22;
            Check.due("P4 the first " + length + " of " + all, Check.streets(new BinsBothSides(), all.substring(0, length)),
                fine ? (length > 15 ? 2 : 1) : -1 - length);
        }
        BinsBothSides x = new BinsBothSides();
        String two = "s11:11111111/11111111!u;s11:11111111/11111111!u;";
        String[] texts = {two + "s11:11111111/11111111!x10-1110", two + "s11:11111111/11111111!x10-11 ",
            two + "s11:11111111/11111111!ux1-1;s1:1", two + "s11:11111111/11111111!ux1-1;?", two + "s1:1/1;s1:1/1;s1:1/1;s11:1/1x",
            two + "s1:1/1;s1:1/1;s11:1/1x1-1;;", two + "s11:11111111/11111111!x900-90", two + "s11:11111111/11111111!x90-800",
            two + "s11:11111111/11111111!x9-1000"};
        int[] places = {76, 76, 76, 76, 76, 74, 75, 75, 76};
        for (int i = 0; i < texts.length; i++) {
            Check.due("P4 " + texts[i].length() + " signs: " + texts[i], Check.streets(x, texts[i]), -1 - places[i]);
        }
        Check.due("P4 nothing of them comes", x.count(0), 0);
        Check.due("P4 just 76", Check.streets(x, two + "s11:11111111/11111111!x90-90"), 3);
    }

    /** "X (1 or 2 digits)", "1 to 8 digits", "as many digits", "perhaps", "a number (1 to 3 digits)", "to no less than from". */
    private static void streetsParts() {
        String[] texts = {"s:1/1", "s1:1/1", "s12:1/1", "s123:1/1", "s1:/", "s1:12345678/12345678", "s1:123456789/123456789",
            "s1:12345678/123456789", "s1:12345678/1234567", "s1:12345678/1234567!", "s1:1/!", "s1:1/;s1:1/1", "s1:1/x1-1",
            "s1:1/1!!", "s1:1/1ud", "s1:1/1uu", "s1:1/1u!", "s1:1/1x1-2!", "s1:1/1x1-2x1-2", "s1:1/1!u", "s1:1/1!d", "s1:1/1d",
            "s1:1/1x-1", "s1:1/1x1", "s1:1/1x1-", "s1:1/1x1-u", "s1:1/1x0-0", "s1:1/1x999-999", "s1:1/1x000-001", "s1:1/1x1000-2",
            "s1:1/1x1-1000", "s1:1/1x2-1", "s1:1/1x100-99;", "s1:1/1x99-100", "s1:1/1x999-998", "s1:1/1x10-1;s"};
        int[] due = {-2, 1, 1, -4, -4, 1, -12,
            -21, -20, -20, -6, -6, -6,
            -8, -8, -8, -8, -11, -11, 1, 1, 1,
            -8, -9, -10, -10, 1, 1, 1, -11,
            -13, -10, -13, 1, -14, -11};
        for (int i = 0; i < texts.length; i++) {
            Check.due("P4 " + texts[i], Check.streets(new BinsBothSides(), texts[i]), due[i]);
        }
    }

    /** "the sign at p can't stand there": signs next to those that can. */
    private static void streetsSigns() {
        String[] texts = {"t1:1/1", "S1:1/1", "s/:1/1", "s::1/1", "s1;1/1", "s1:/1", "s1::/1", "s1:1:1", "s1:1//", "s1:1/:", "s1:1/1\"",
            "s1:1/1,", "s1:1/1v", "s1:1/1x/-1", "s1:1/1x1.1", "s1:1/1x1-/", "s1:1/1x1-:", " s1:1/1", "s1:1/1 ", "s1:1/1\0", "\0"};
        int[] places = {0, 0, 1, 1, 2, 3, 3, 4, 5, 5, 6, 6, 6, 7, 8, 9, 9, 0, 6, 6, 0};
        for (int i = 0; i < texts.length; i++) {
            Check.due("P4 " + texts[i], Check.streets(new BinsBothSides(), texts[i]), -1 - places[i]);
        }
    }

    /** "an empty one: none", "its end, if it ends too early", "40, if it has more and the first 40 could go on or end". */
    private static void ruleEnds() {
        BinsBothSides x = Check.town("s0:35/40");
        String all = "-(w+12)*3<b/(s-(1))";
        boolean[] fine = new boolean[all.length() + 1];
        fine[7] = fine[9] = fine[11] = fine[19] = true;
        for (int length = 1; length <= all.length(); length++) {
            Check.due("P5 the first " + length + " of " + all, Check.rule(x, all.substring(0, length)), fine[length] ? 0 : -1 - length);
        }
        String first = "1+1+1+1+1+1+1+1+1+1+1+1+1+1+1+1+1+1+";
        String[] texts = {first + "9+25", first + "9+25+", first + "9+251", first + "9+25?", first + "9+(1", first + "9+(1)",
            first + "9-b+", first + "9-b+1", first + "9?b+1", first + "1<2<1", first + "(((((", first + "999-", first + "9999-",
            first + "----", first + "----1", first + "9*(1", first + ")+11"};
        int[] due = {0, -41, -41, -41, -41, -41,
            -41, -41, -38, -40, -41, -41, -40,
            -41, -41, -41, -37};
        for (int i = 0; i < texts.length; i++) {
            Check.due("P5 " + texts[i].length() + " signs: " + texts[i], Check.rule(x, texts[i]), due[i]);
        }
        Check.due("P5 an empty one", Check.rule(x, ""), 0);
        Check.due("P5 an empty one: 8+w", x.bin(0, 0, 0, 3), 11);
    }

    /** "not one behind the other", "1 to 3 digits", "at most 4 in one another", "-1 - p: the sign at p can't stand there". */
    private static void ruleParts() {
        BinsBothSides x = Check.town("s0:35/40");
        String[] texts = {"1<2", "1<2<3", "1<2>3", "1=2=3", "(1<2)<3", "1<(2<3)", "(1<2<3)", "1<2+(3<4)", "<1", "1<", "1<<2",
            "1", "12", "123", "1234", "0123", "0", "((((1))))", "(((((1)))))", "((((1)))+(1))", "(1)(1)", "(1)1", "1(1)", "w(1)",
            "()", "(", ")", "1)", "((1)", "w", "W", "q", "wb", "2w", "w2", "--w", "-", "+1", "1+-1", "1-+1", "1*/1", "1 +1", "1.5",
            "1\0", "1;1", "\0"};
        int[] due = {0, -4, -4, -4, 0, 0, -5, 0, -1, -3, -3,
            0, 0, 0, -4, -4, 0, 0, -5, 0, -4, -4, -2, -2,
            -2, -2, -1, -2, -5, 0, -1, -1, -2, -2, -2, 0, -2, -1, 0, -3, -3, -2, -2,
            -2, -2, -1};
        for (int i = 0; i < texts.length; i++) {
            Check.due("P5 " + texts[i], Check.rule(x, texts[i]), due[i]);
        }
        Check.rule(x, "5");
        Check.due("P5 a wrong one", Check.rule(x, "6+"), -3);
        Check.due("P5 THE RULE stays", x.bin(0, 0, 0, 3), 5);
    }

    /** "NONE: never"; "NoSuchElementException: none such, another what". */
    private static void street() {
        BinsBothSides none = new BinsBothSides();
        Check.dueThrows("P6 no streets", () -> none.street(0, 0));
        BinsBothSides x = Check.town("s1:99/99;s2:1/0x0-999");
        Check.due("P6 never BARRED: from", x.street(0, 5), -1);
        Check.due("P6 never BARRED: to", x.street(0, 6), -1);
        Check.due("P6 the least from", x.street(1, 5), 0);
        Check.due("P6 the greatest to", x.street(1, 6), 999);
        Check.due("P6 the last what", x.street(0, 8), 36);
        x.set(4, 8);
        Check.due("P6 those too heavy are out, too", x.street(0, 7), 4);
        Check.due("P6 those too heavy weigh, too", x.street(0, 8), 36);
        Check.dueThrows("P6 what 9", () -> x.street(0, 9));
        Check.dueThrows("P6 what -1", () -> x.street(0, -1));
        Check.dueThrows("P6 street 2 of two", () -> x.street(2, 0));
        Check.dueThrows("P6 street -1", () -> x.street(-1, 0));
        Check.due("P6 street 1 of two", x.street(1, 0), 2);
    }

    /** "NoSuchElementException: no such house, another what"; "of any house". */
    private static void bin() {
        BinsBothSides x = Check.town("s1:12/34;s2:123/456");
        Check.due("P7 the last house", x.bin(0, 1, 1, 0), 4);
        Check.dueThrows("P7 a block too far", () -> x.bin(0, 1, 2, 0));
        Check.due("P7 the other street is longer", x.bin(1, 1, 2, 0), 6);
        Check.dueThrows("P7 a block below 0", () -> x.bin(0, 0, -1, 0));
        Check.dueThrows("P7 a block that wraps", () -> x.bin(0, 0, MAX, 0));
        Check.dueThrows("P7 side 2", () -> x.bin(0, 2, 0, 0));
        Check.dueThrows("P7 side -1", () -> x.bin(0, -1, 0, 0));
        Check.dueThrows("P7 what 4", () -> x.bin(0, 0, 0, 4));
        Check.dueThrows("P7 what -1", () -> x.bin(0, 0, 0, -1));
        Check.dueThrows("P7 street 2 of two", () -> x.bin(2, 0, 0, 0));
        Check.dueThrows("P7 street -1", () -> x.bin(-1, 0, 0, 0));
        x.set(4, 1);
        x.drive(0);
        x.empty(0, 0);
        Check.due("P7 SECONDS by hand of one that was EMPTIED", x.bin(0, 0, 0, 3), 9);
        Check.due("P7 SECONDS by hand of one that is LEFT", x.bin(0, 0, 1, 3), 10);
    }

    /** "FULL (1 .. 999, no less than LOAD), MEN (1 .. 4), RAIN (0 .. 9), TWICE (1, 2), LIFT (1 .. 99), X (0 .. 99), SHUT (0 .. 999)". */
    private static void set() {
        int[] least = {1, 1, 0, 1, 1, 0, 0};
        int[] most = {999, 4, 9, 2, 99, 99, 999};
        for (int what = 0; what < least.length; what++) {
            BinsBothSides x = new BinsBothSides();
            int first = x.set(what, least[what]);
            Check.due("P8 below the least of " + what, x.set(what, least[what] - 1), -1);
            Check.due("P8 the least of " + what + " stays", x.set(what, most[what]), least[what]);
            Check.due("P8 above the greatest of " + what, x.set(what, most[what] + 1), -1);
            Check.due("P8 far above of " + what, x.set(what, MAX), -1);
            Check.due("P8 far below of " + what, x.set(what, MIN), -1);
            Check.due("P8 the greatest of " + what + " stays", x.set(what, first), most[what]);
        }
        BinsBothSides y = Check.town("s0:9/0");
        Check.due("P8 what 7", y.set(7, 1), -1);
        Check.due("P8 what -1", y.set(-1, 1), -1);
        y.empty(0, 2);
        Check.due("P8 FULL less than LOAD", y.set(0, 8), -1);
        Check.due("P8 FULL no less than LOAD", y.set(0, 9), 100);
        y.tip();
        Check.due("P8 LOAD is 0", y.set(0, 1), 9);
    }

    /** "becomes v (0 .. 6)". */
    private static void dayOf() {
        BinsBothSides x = Check.town("s0:9/0;s0:9/0");
        Check.due("P9 the greatest", x.dayOf(1, 6), 0);
        Check.due("P9 7", x.dayOf(1, 7), -1);
        Check.due("P9 -1", x.dayOf(1, -1), -1);
        Check.due("P9 the least", x.dayOf(1, 0), 6);
        Check.due("P9 street 2 of two", x.dayOf(2, 0), -1);
        Check.due("P9 street -1", x.dayOf(-1, 0), -1);
        Check.due("P9 no streets", new BinsBothSides().dayOf(0, 0), -1);
        x.dayOf(0, 3);
        Check.streets(x, "s0:9/0");
        Check.due("P9 as it was, when STREETS come", x.street(0, 4), 3);
        Check.due("P9 at first, of the one that came", x.street(2, 4), 0);
    }

    /** "of bytes, shorts the lowest bits, with their sign; put to 0 .. 99"; "those behind it are 0"; "these first". */
    private static void sheet() {
        int[][] calls = {{0, 3, 126, 1}, {0, 3, 255, 1}, {0, 3, -157, 1}, {0, 3, 127, 1}, {0, 3, 1, 256}, {0, 3, 99, 157},
            {1, 3, 32766, 1}, {1, 3, 65535, 1}, {1, 3, -65437, 1}, {1, 3, 32767, 1}, {1, 3, 1, 65536}, {1, 3, 256, 65280},
            {2, 3, MAX, 1}, {2, 3, MIN, MAX}, {2, 3, 0, MIN}, {2, 3, 98, 1}, {2, 3, -1, 1}, {2, 3, 65536, 0},
            {2, 0, 50, 1}, {2, 1, 50, 1}, {2, 2, 50, 1}, {2, 3, 50, 1}, {2, 4, 50, 1}, {2, 6, 50, 1}};
        String[] places = {"99 99 0", "0 0 1", "99 99 99", "99 0 0", "1 1 1", "99 0 0",
            "99 99 0", "0 0 1", "99 99 99", "99 0 0", "1 1 1", "99 0 0",
            "99 0 0", "0 0 99", "0 0 0", "98 99 99", "0 0 1", "99 99 99",
            "0 0 0", "50 0 0", "50 51 0", "50 51 52", "50 51 52", "50 51 52"};
        BinsBothSides x = Check.town("s7:1/1;s8:1/1;s9:1/1");
        for (int i = 0; i < calls.length; i++) {
            int[] call = calls[i];
            String name = "P10 sheet(" + call[0] + ", " + call[1] + ", " + call[2] + ", " + call[3] + ")";
            int sum = x.sheet(call[0], call[1], call[2], call[3]);
            Check.due(name, places(x), places[i]);
            Check.due(name, sum, x.street(0, 0) + x.street(1, 0) + x.street(2, 0));
        }
        int[][] refused = {{-1, 3, 1, 1}, {4, 3, 1, 1}, {4, -1, 1, 1}, {0, 7, 1, 1}, {1, 7, 1, 1}, {2, 7, 1, 1}, {3, 7, 1, 1},
            {2, MAX, 1, 1}, {0, -1, 1, 1}, {1, -1, 1, 1}, {2, MIN, 1, 1}};
        for (int[] call : refused) {
            int due = call[1] < 0 && call[0] != 4 ? -2 : -1;
            Check.due("P10 kind " + call[0] + ", n " + call[1], x.sheet(call[0], call[1], call[2], call[3]), due);
            Check.due("P10 nothing changes", places(x), "50 51 52");
        }
        Check.due("P10 missing", x.sheet(3, 6, 1, 1), -3);
        Check.due("P10 missing: all 0", places(x), "0 0 0");
        x.sheet(2, 3, 1, 1);
        Check.due("P10 missing, n below 0: of kinds 0 .. 2 alone is that -2", x.sheet(3, -1, 1, 1), -3);
        Check.due("P10 missing: all 0", places(x), "0 0 0");
        Check.due("P10 no streets", new BinsBothSides().sheet(2, 6, 5, 5), 0);
    }

    private static String places(BinsBothSides x) {
        return x.street(0, 0) + " " + x.street(1, 0) + " " + x.street(2, 0);
    }

    // ---- the round

    /** "10 for each of X between", both ways; "Refused: none such". */
    private static void drive() {
        BinsBothSides x = Check.town("s99:1/0;s0:1/0");
        Check.due("P11 no way", x.drive(1), 0);
        Check.due("P11 the longest way", x.drive(0), 990);
        Check.due("P11 and back", x.drive(1), 990);
        Check.due("P11 street 2 of two", x.drive(2), -1);
        Check.due("P11 street -1", x.drive(-1), -1);
        Check.due("P11 refused: X, NOW stay", Check.state(x), "0 0 1980 1010");
        Check.due("P11 no streets", new BinsBothSides().drive(0), -1);
    }

    /** "-2: not at its X; -3: the MINUTE of NOW is BARRED there (from to to, both too); NONE: others". */
    private static void empty() {
        BinsBothSides x = Check.town("s1:1/0x1-2;s0:1/0x0-0");
        Check.due("P12 not at its X", x.empty(0, 2), -2);
        Check.due("P12 BARRED from 0 to 0", x.empty(1, 2), -3);
        Check.due("P12 how 3", x.empty(1, 3), -1);
        Check.due("P12 how -1", x.empty(1, -1), -1);
        Check.due("P12 street 2 of two", x.empty(2, 0), -1);
        Check.due("P12 street -1", x.empty(-1, 0), -1);
        int[] nows = {10, 59, 60, 119, 120, 179, 180};
        int[] due = {7, 7, -3, -3, -3, -3, 7};
        for (int i = 0; i < nows.length; i++) {
            x.week();
            x.drive(0);
            x.pause(nows[i] - 10);
            Check.due("P12 NOW is " + nows[i], x.empty(0, 2), due[i]);
        }
        x.week();
        x.pause(60);
        Check.due("P12 not at its X, and BARRED", x.empty(0, 2), -2);
        BinsBothSides y = Check.town("s0:1/0x999-999");
        for (int i = 0; i < 6; i++) {
            y.pause(9989);
        }
        y.pause(6);
        Check.due("P12 NOW", y.count(3), 59940);
        Check.due("P12 the last MINUTE that can be BARRED", y.empty(0, 2), -3);
        y.pause(60);
        Check.due("P12 the MINUTE behind it", y.empty(0, 2), 7);
    }

    /** "till a BIN that would not be LEFT does not fit (LOAD and HEAVY above FULL): that, and all behind it, stay out". */
    private static void emptyFull() {
        BinsBothSides x = Check.town("s0:123/000");
        x.set(0, 6);
        Check.due("P12 all fit, FULL then", x.empty(0, 0), 15 + 30);
        Check.due("P12 the row", Check.row(x), "3 0 6 0");
        Check.due("P12 none is out, and FULL", x.empty(0, 0), 30);
        Check.due("P12 the row", Check.row(x), "0 0 0 0");
        x.week();
        x.set(0, 5);
        Check.due("P12 the last does not fit; the same moves", x.empty(0, 0), 10 + 30);
        Check.due("P12 the row", Check.row(x), "2 0 3 1");
        x.set(0, 6);
        Check.due("P12 now it fits", x.empty(0, 0), 6 + 30);
        Check.due("P12 the row", Check.row(x), "1 0 3 0");
        Check.due("P12 EMPTIED by both", x.count(5), 3);
        x.week();
        x.set(0, 1);
        x.empty(0, 0);
        Check.due("P12 the second does not fit", x.bin(0, 0, 1, 2), 1);
        Check.due("P12 nothing fits any more", x.empty(0, 0), 30);
        Check.due("P12 the row", Check.row(x), "0 0 0 2");
        int[] what = {1, 2, 2};
        for (int how = 0; how <= 2; how++) {
            BinsBothSides behind = Check.town("s0:00/45");
            behind.set(0, 5);
            behind.empty(0, how);
            Check.due("P12 the near one on the right, HOW " + how, behind.bin(0, 1, 0, 2), what[how]);
            Check.due("P12 the far one on the right, HOW " + how, behind.bin(0, 1, 1, 2), how == 0 ? 2 : 1);
        }
        BinsBothSides y = Check.town("s0:9/1");
        y.set(0, 8);
        Check.due("P12 one behind it would fit, but stays out", y.empty(0, 1), 5);
        Check.due("P12 the row", Check.row(y), "0 0 0 2");
    }

    /** "one that is LEFT takes 3, whatever HOW"; LEFT ones need no room. */
    private static void emptyLeft() {
        BinsBothSides x = Check.town("s0:129/000");
        x.set(0, 3);
        x.set(4, 5);
        Check.due("P12 one is LEFT where none fits any more", x.empty(0, 0), (9 + 10 + 3) / 2 + 30);
        Check.due("P12 the row", Check.row(x), "2 1 3 0");
        Check.due("P12 LEFT ones are not out: a second time", x.empty(0, 0), 30);
        Check.due("P12 the row", Check.row(x), "0 0 0 0");
        BinsBothSides y = Check.town("s0:939/000");
        y.set(0, 2);
        y.set(4, 5);
        Check.due("P12 one behind what does not fit is not LEFT", y.empty(0, 0), 2 + 30);
        Check.due("P12 the row", Check.row(y), "0 1 0 2");
        y.set(0, 100);
        y.empty(0, 0);
        Check.due("P12 LEFT by both", y.count(6), 2);
        Check.due("P12 EMPTIED", y.count(5), 1);
        BinsBothSides z = Check.town("s0:09/09");
        z.set(4, 8);
        for (int how = 0; how < 3; how++) {
            z.week();
            Check.due("P12 two that are LEFT by how " + how, z.empty(0, how), 3 + new int[] {20, 10, 0}[how]);
            Check.due("P12 the row", Check.row(z), "0 2 0 0");
        }
    }

    /** "-2: the MINUTE in which it is there is above SHUT (it does not go)". */
    private static void tip() {
        BinsBothSides x = new BinsBothSides();
        x.set(5, 0);
        x.set(6, 0);
        x.pause(59);
        Check.due("P13 in MINUTE 0", x.tip(), 300);
        x.undo();
        x.pause(1);
        Check.due("P13 in MINUTE 1", x.tip(), -2);
        x.set(5, 6);
        x.set(6, 1);
        Check.due("P13 there in MINUTE 2", x.tip(), -2);
        x.set(6, 2);
        Check.due("P13 there in MINUTE 2, SHUT then", x.tip(), 360);
        Check.due("P13 X, LOAD, NOW", Check.state(x), "6 0 420 ");
        BinsBothSides y = new BinsBothSides();
        y.set(6, 999);
        for (int i = 0; i < 5; i++) {
            y.pause(9999);
        }
        y.pause(9504);
        Check.due("P13 there in MINUTE 999", y.tip(), 800);
        y.undo();
        y.pause(1);
        Check.due("P13 there in MINUTE 1000", y.tip(), -2);
        Check.due("P13 it does not go", Check.state(y), "0 0 59500 ");
    }

    /** "n SECONDS (0 .. 9999)". */
    private static void pause() {
        BinsBothSides x = new BinsBothSides();
        Check.due("P14 the least", x.pause(0), 0);
        Check.due("P14 the most", x.pause(9999), 9999);
        Check.due("P14 one more", x.pause(10000), -1);
        Check.due("P14 one less", x.pause(-1), -1);
        Check.due("P14 NOW", x.count(3), 9999);
        Check.due("P14 what can be undone", x.count(8), 2);
    }

    /** "all BINS are out again (but those without WEIGHT), LOAD 0, X 0, NOW 0". */
    private static void week() {
        Check.due("P15 no streets", new BinsBothSides().week(), 0);
        Check.due("P15 no bins", Check.town("s5:00/00").week(), 0);
        BinsBothSides x = Check.town("s0:19/20;s7:3/0");
        x.set(4, 5);
        Check.round(x, "e02;g1;e12;p3");
        Check.due("P15 the state ahead", Check.state(x), "7 6 96 232020");
        Check.due("P15 EMPTIED, LEFT, of all streets", x.week(), 4);
        Check.due("P15 the state", Check.state(x), "0 0 0 111010");
        Check.due("P15 once more", x.week(), 4);
        Check.due("P15 it can be undone", x.undo(), 2);
    }

    /** "an empty one: nothing", "till one is refused (it answers below 0)", "of which one ACT was done". */
    private static void round() {
        BinsBothSides x = Check.town("s0:19/20;s7:3/0x0-1");
        x.best(0);
        Check.due("P16 an empty one", Check.round(x, ""), 0);
        Check.due("P16 the row", Check.row(x), "0 0 0");
        Check.due("P16 nothing that can be undone", x.count(8), 0);
        String[] refused = {"g2", "g9", "e10", "e22", "e90"};
        for (String act : refused) {
            Check.due("P16 the first is refused: " + act, Check.round(x, act + ";p9"), 0);
            Check.due("P16 the row", Check.row(x), "1 0 0");
            Check.due("P16 the second is refused: " + act, Check.round(x, "p9;" + act + ";p9"), 1);
            Check.due("P16 the row", Check.row(x), "1 0 9");
            Check.due("P16 the last is refused: " + act, Check.round(x, "p9;p9;" + act), 2);
            Check.due("P16 the row", Check.row(x), "1 0 18");
            Check.due("P16 undo() of the last", x.undo(), 1);
            Check.due("P16 undo() of the one ahead", x.undo(), 0);
        }
        Check.due("P16 BARRED", Check.round(x, "e02;g1;e12"), 2);
        Check.due("P16 the row: EMPTIED ones of these acts", Check.row(x), "1 3 " + (26 + 70));
        Check.due("P16 not BARRED any more", Check.round(x, "p24;e12"), 2);
        Check.due("P16 the row: EMPTIED ones of these acts", Check.row(x), "0 1 " + (24 + 8));
        x.set(6, 0);
        Check.due("P16 TIP is shut", Check.round(x, "p0;t"), 1);
        Check.due("P16 acts of 0 SECONDS are done", Check.round(x, "p0;g1;p0;e12"), 4);
        Check.due("P16 the row", Check.row(x), "0 0 0");
    }

    /** "its end, if it ends too early; 60, if it has more and the first 60 could go on or end"; "nothing is done then". */
    private static void roundEnds() {
        BinsBothSides x = Check.town("s0:19/20");
        String all = "p7;e01;t;p1234;g0";
        boolean[] fine = new boolean[all.length() + 1];
        fine[2] = fine[6] = fine[8] = fine[11] = fine[12] = fine[13] = fine[14] = fine[17] = true;
        int[] acts = new int[] {0, 0, 1, 0, 0, 0, 2, 0, 3, 0, 0, 4, 4, 4, 4, 0, 0, 5};
        for (int length = 1; length <= all.length(); length++) {
            int got = Check.round(x, all.substring(0, length));
            Check.due("P16 the first " + length + " of " + all, got, fine[length] ? acts[length] : -1 - length);
            Check.due("P16 refused: nothing is done", fine[length] || x.count(8) == 0, true);
            x.undo();
        }
        String[] texts = {"p12345", "p", "p;", "g", "g;", "ga", "g00", "e", "e0", "e03", "e0/", "e/0", "e:0", "e000", "t0", "T", " t", "t;", ";t", "t;;t",
            "t,t", "t\0", "f0"};
        int[] places = {5, 1, 1, 1, 1, 1, 2, 1, 2, 2, 2, 1, 1, 3, 1, 0, 0, 2, 0, 2, 1, 1, 0};
        for (int i = 0; i < texts.length; i++) {
            Check.due("P16 " + texts[i], Check.round(x, texts[i]), -1 - places[i]);
        }
        roundOfManySigns();
    }

    private static void roundOfManySigns() {
        BinsBothSides x = Check.town("s0:19/20");
        String most = "p1;p1;p1;p1;p1;p1;p1;p1;p1;p1;p1;p1;p1;p1;p1;p1;p1;p1;p1;";
        String[] longs = {most + "p1", most + "p12", most + "p12;", most + "p123", most + "p12;t", most + "p12?", most + "g0;", most + "g0;g",
            most + "e00", most + "e00;", most + "e0", most + "e03;", most + "p1?1", most + "t;p", most + "t;p1", most + "t;e00", most + "t;e?0"};
        int[] due = {20, 20, -61, -61, -61, -61, -61, -61,
            20, -61, -60, -60, -60, -61, -61, -61, -61};
        for (int i = 0; i < longs.length; i++) {
            Check.due("P16 " + longs[i].length() + " signs: " + longs[i], Check.round(x, longs[i]), due[i]);
        }
    }

    /** "of 15 that are kept, the latest ones; such as did not answer below 0"; "Refused: none"; what forgets them. */
    private static void undo() {
        BinsBothSides x = Check.town("s0:19/20;s7:3/0");
        Check.due("P17 none", x.undo(), -1);
        String[] states = new String[17];
        for (int i = 0; i < 16; i++) {
            states[i] = Check.state(x);
            switch (i % 6) {
                case 0: x.drive(1); break;
                case 1: x.empty(1, i % 3); break;
                case 2: x.tip(); break;
                case 3: x.pause(i); break;
                case 4: Check.round(x, "p5;g0;e01;e90"); break;
                default: x.week(); break;
            }
            Check.due("P17 kept", x.count(8), Math.min(15, i + 1));
        }
        x.drive(2);
        x.empty(0, 3);
        x.pause(-1);
        Check.round(x, "e90");
        Check.round(x, "");
        Check.round(x, "?");
        Check.due("P17 refused ones are not kept", x.count(8), 15);
        for (int i = 15; i >= 1; i--) {
            Check.due("P17 left", x.undo(), i - 1);
            Check.due("P17 as ahead of act " + i, Check.state(x), states[i]);
        }
        Check.due("P17 the first of 16 is forgotten", x.undo(), -1);
        Check.due("P17 and stays done", Check.state(x), states[1]);
        undoForgets();
        undoOfBinsAndLorryAlone();
        undoOfLeft();
    }

    /** What is out again is neither EMPTIED nor LEFT any more, and the other way round. */
    private static void undoOfLeft() {
        BinsBothSides x = Check.town("s0:19/20");
        x.set(4, 8);
        x.keep(0);
        x.empty(0, 0);
        x.keep(1);
        Check.due("P17 out, EMPTIED, LEFT", x.count(4) * 100 + x.count(5) * 10 + x.count(6), 21);
        x.undo();
        Check.due("P17 undone", x.count(4) * 100 + x.count(5) * 10 + x.count(6), 300);
        x.again(1);
        Check.due("P40 as they were kept under 1", x.count(4) * 100 + x.count(5) * 10 + x.count(6), 21);
        x.again(0);
        Check.due("P40 as they were kept under 0", x.count(4) * 100 + x.count(5) * 10 + x.count(6), 300);
        x.empty(0, 0);
        x.week();
        Check.due("P15 a new week", x.count(4) * 100 + x.count(5) * 10 + x.count(6), 300);
    }

    /** "BINS, LOAD, X, NOW are as ahead of it", and nothing else; so it is with again(). */
    private static void undoOfBinsAndLorryAlone() {
        for (int kind = 0; kind < 2; kind++) {
            BinsBothSides x = Check.town("s0:19/20;s7:3/0");
            x.keep(0);
            x.pause(1);
            x.set(2, 7);
            x.set(1, 4);
            x.dayOf(1, 5);
            x.sheet(2, 2, 3, 5);
            Check.rule(x, "b+6");
            x.weighed(1, 1);
            x.best(0);
            x.sign(0);
            Check.due("P17, P40 done", kind == 0 ? x.undo() == 0 : x.again(0), true);
            Check.due("P17, P40 NOW", x.count(3), 0);
            Check.due("P17, P40 RAIN", x.set(2, 0), 7);
            Check.due("P17, P40 MEN", x.set(1, 1), 4);
            Check.due("P17, P40 DAY", x.street(1, 4), 5);
            Check.due("P17, P40 X of streets", x.street(0, 0) * 10 + x.street(1, 0), 38);
            Check.due("P17, P40 THE RULE", x.bin(0, 0, 1, 3), 7);
            Check.due("P17, P40 what was weighed", x.count(7), 1);
            Check.due("P17, P40 the row", x.count(9), 3);
            Check.due("P17, P40 the text", x.count(10), 4);
        }
    }

    private static void undoForgets() {
        BinsBothSides x = Check.town("s0:19/20;s7:3/0");
        x.pause(1);
        Check.streets(x, "");
        Check.streets(x, "s");
        x.again(0);
        x.again(3);
        x.keep(0);
        Check.due("P17 an empty or refused streets(), a refused again(), keep(): not forgotten", x.count(8), 1);
        x.again(0);
        Check.due("P17 again() forgets", x.count(8), 0);
        x.pause(1);
        Check.streets(x, "s1:1/1");
        Check.due("P17 streets() forgets", x.undo(), -1);
        x.tip();
        x.set(6, 0);
        Check.due("P17 a tip() that is refused", x.tip(), -2);
        Check.due("P17 is not kept", x.count(8), 1);
    }

    // ---- one street

    /** "HOW 0 .. 2"; "by MEN (begun ones too)"; "LOAD 0, FULL without end". */
    private static void takes() {
        BinsBothSides x = Check.town("s0:99999999/99999999!;s5:0/0");
        Check.due("P18 how -1", x.takes(0, -1), -1);
        Check.due("P18 how 3", x.takes(0, 3), -1);
        Check.due("P18 street 2 of two", x.takes(2, 0), -1);
        Check.due("P18 street -1", x.takes(-1, 0), -1);
        x.set(0, 1);
        Check.due("P18 FULL without end, how 0", x.takes(0, 0), 16 * 17 / 2 + 80);
        Check.due("P18 FULL without end, how 1", x.takes(0, 1), (16 * 17 + 8 * 11) / 2 + 8 * 14);
        Check.due("P18 FULL without end, how 2", x.takes(0, 2), (16 * 17 + 2 * 36 * 4) / 2);
        Check.due("P18 no bins: moves alone", x.takes(1, 0), 10);
        Check.due("P18 the row", Check.row(x), "0 10");
        Check.due("P18 no bins: nothing", x.takes(1, 2), 0);
        Check.due("P18 the row", Check.row(x), "0 0");
        BinsBothSides y = Check.town("s0:1/0");
        int[] seconds = {9, 5, 3, 3};
        for (int men = 1; men <= 4; men++) {
            y.set(1, men);
            Check.due("P18 9 by " + men + ", begun ones too", y.takes(0, 0), seconds[men - 1] + 10);
        }
        y.set(1, 3);
        Check.due("P18 9 by 3: none begun", y.takes(0, 1), 3 + 5);
    }

    /** "of equal ones the least"; "NONE: none such". */
    private static void best() {
        BinsBothSides x = oneMan("s0:1/0!", "10+c*5");
        Check.due("P19 2 is the fewest", x.best(0), 2);
        Check.due("P19 the row", Check.row(x), "20 24 19");
        Check.rule(x, "10+c*6");
        Check.due("P19 0 and 2 are equal", x.best(0), 0);
        Check.due("P19 the row", Check.row(x), "20 24 20");
        BinsBothSides y = oneMan("s0:1/0", "10+c");
        Check.due("P19 1 and 2 are equal", y.best(0), 1);
        Check.due("P19 the row", Check.row(y), "20 15 15");
        BinsBothSides z = oneMan("s0:00001/01000", "9+c*99");
        Check.due("P19 1 is the fewest", z.best(0), 1);
        Check.due("P19 the row", Check.row(z), "68 54 739");
        Check.due("P19 street -1", x.best(-1), -1);
        Check.due("P19 street 1 of one", x.best(1), -1);
        BinsBothSides even = oneMan("s0:01/11!", "6+c*99");
        Check.due("P19 0 is the fewest", even.best(0), 0);
        Check.due("P19 the row", Check.row(even), (18 + 20) + " " + (18 + 22 + 28) + " " + (18 + 99 * 5 + 20));
    }

    /** "-2: there is but one"; "NONE: none such"; below 0 with its row. */
    private static void less() {
        BinsBothSides x = oneMan("s0:1/0", "(m=2)*50+20");
        Check.due("P20 there is but one", x.less(0), -2);
        Check.due("P20 none such, and but one", x.less(1), -1);
        x.set(1, 2);
        Check.due("P20 two: below 0", x.less(0), 24 - 37);
        Check.due("P20 with its row", Check.row(x), "2");
        Check.due("P20 street -1", x.less(-1), -1);
        Check.rule(x, "(m=2)*4+1");
        Check.due("P20 none more", x.less(0), 5 - 5);
        Check.rule(x, "(m=2)*2+1");
        Check.due("P20 one more", x.less(0), 5 - 4);
        Check.rule(x, "(m=2)*6+2");
        Check.due("P20 it answers 0, with its row", x.less(0), 6 - 6);
        Check.due("P20 its row", Check.row(x), "2");
        Check.rule(x, "(m=2)*8+2");
        Check.due("P20 one fewer comes with its row", x.less(0), 6 - 7);
        Check.rule(x, "(m=2)*10+2");
        x.best(0);
        Check.due("P20 two fewer is no reason", x.less(0), 6 - 8);
        Check.due("P20 it comes with its row", Check.row(x), "2");
        Check.rule(x, "(m=2)*30+3-(m<2)*2+(m<2)*c*9");
        Check.due("P20 two fewer, and the HOW that is best then", x.less(0), 6 - 19);
        Check.due("P20 its row", Check.row(x), "1");
    }

    /** "(0 .. 16)"; "no slower"; "and all lesser ones do, too"; "(NONE, NONE: it has none more)"; "of a block the left first". */
    private static void line() {
        BinsBothSides all = Check.town("s0:11111111/11111111!");
        Check.rule(all, "1");
        all.set(1, 4);
        Check.due("P21 all 16", all.line(0), 16);
        Check.due("P21 none more", Check.row(all), "-1 -1");
        BinsBothSides none = Check.town("s0:00000000/00000000");
        Check.due("P21 it has none", none.line(0), 0);
        Check.due("P21 none more", Check.row(none), "-1 -1");
        BinsBothSides x = oneMan("s0:1/0!", "20+c*6");
        Check.due("P21 as slow is no slower", x.line(0), 1);
        Check.due("P21 none more", Check.row(x), "-1 -1");
        Check.rule(x, "20+c*7");
        Check.due("P21 slower by one", x.line(0), 0);
        Check.due("P21 the row", Check.row(x), "30 31");
        BinsBothSides y = oneMan("s0:11/00", "1+(c=1)*49+(b=1)*(c=0)*99");
        Check.due("P21 two would be no slower", y.takes(0, 2) <= Math.min(y.takes(0, 0), y.takes(0, 1)), true);
        Check.due("P21 but one is", y.line(0), 0);
        Check.due("P21 the row", Check.row(y), "11 54");
        BinsBothSides z = oneMan("s0:100/100!", "c*(s*30+1)");
        Check.due("P21 the left one of a block is nearer", z.line(0), 1);
        Check.due("P21 the row", Check.row(z), "32 40");
        BinsBothSides w = oneMan("s0:100/010!", "c*(s*30+1)");
        Check.due("P21 a right one ahead of a left one behind", w.line(0), 1);
        Check.due("P21 the row", Check.row(w), "32 " + (5 + 62 + 8));
        BinsBothSides v = oneMan("s0:0/1!", "c*9+1");
        Check.due("P21 a house without a bin does not count", v.line(0), 0);
        Check.due("P21 the row", Check.row(v), "11 14");
        BinsBothSides left = Check.town("s0:999/001");
        left.set(4, 8);
        Check.due("P21 those that would be LEFT are out, too", left.line(0), 4);
        Check.due("P21 none more", Check.row(left), "-1 -1");
        left.set(1, 1);
        Check.rule(left, "99+c*99");
        Check.due("P21 three are LEFT quickly, the one beside the last is slow carried", left.line(0), 3);
        Check.due("P21 the row", Check.row(left), (15 + 9 + 99 + 11) + " " + (9 + 99 + 3 * 99 + 3 * 4));
        Check.due("P21 street 1 of one", w.line(1), -1);
        Check.due("P21 street -1", w.line(-1), -1);
    }

    /** "(more: below 0)"; "NoSuchElementException: none such". */
    private static void hill() {
        BinsBothSides x = oneMan("s0:1/0u;s0:1/0;s0:1/0d", "9+u*3");
        Check.due("P22 up", x.hill(0), 6);
        Check.due("P22 flat", x.hill(1), 3);
        Check.due("P22 down: none", x.hill(2), 0);
        Check.rule(x, "9-u");
        Check.due("P22 more: -1", x.hill(1), -1);
        Check.due("P22 more: -2", x.hill(0), -2);
        Check.dueThrows("P22 street 3 of three", () -> x.hill(3));
        Check.dueThrows("P22 street -1", () -> x.hill(-1));
        BinsBothSides none = new BinsBothSides();
        Check.dueThrows("P22 no streets", () -> none.hill(0));
    }

    /** "RAIN v (0 .. 9)"; LEFT above LIFT alone; "BINS that are out". */
    private static void wet() {
        BinsBothSides x = Check.town("s0:9/5;s0:0/0");
        x.set(4, 10);
        Check.due("P23 the least v", x.wet(0, 0), 14);
        Check.due("P23 none is above LIFT", Check.row(x), "0");
        Check.due("P23 v 2: 9 becomes 10", x.wet(0, 2), 10 + 6);
        Check.due("P23 LIFT is not above LIFT", Check.row(x), "0");
        Check.due("P23 v 3: 9 becomes 11", x.wet(0, 3), 11 + 6);
        Check.due("P23 one is above", Check.row(x), "1");
        Check.due("P23 the greatest v", x.wet(0, 9), 17 + 9);
        Check.due("P23 v 10", x.wet(0, 10), -1);
        Check.due("P23 v -1", x.wet(0, -1), -1);
        Check.due("P23 street 2 of two", x.wet(2, 0), -1);
        Check.due("P23 street -1", x.wet(-1, 0), -1);
        Check.due("P23 no bins", x.wet(1, 9), 0);
        Check.due("P23 the row of none", Check.row(x), "0");
        x.set(2, 3);
        x.empty(0, 0);
        Check.due("P23 LEFT and EMPTIED ones are not out", x.wet(0, 9), 0);
        Check.due("P23 nor above LIFT once more", Check.row(x), "0");
    }

    // ---- orders

    /** "1 to 6 digits, unlike, of STREETS that are there"; "its end for none; a digit of none such, or told already; a seventh sign". */
    private static void orderText() {
        BinsBothSides x = Check.town("s0:0/0;s0:0/0;s0:0/0;s0:0/0;s0:0/0;s0:0/0");
        String[] texts = {"", "0", "5", "6", "9", "/", ":", "00", "11", "55", "011", "121", "343", "012345", "543210", "0123450", "012345x", "0123456",
            "01234", "01234\0", "\0", "0;", "0 1", "x0"};
        int[] due = {-1, 800, 800, -1, -1, -1, -1, -2, -2, -2, -3, -3, -3, 800, 800, -7, -7, -7,
            800, -6, -1, -2, -2, -1};
        for (int i = 0; i < texts.length; i++) {
            Check.due("P24 " + texts[i], Check.order(x, texts[i]), due[i]);
        }
        BinsBothSides y = Check.town("s0:0/0;s0:0/0");
        Check.due("P24 street 2 of two", Check.order(y, "012"), -3);
        Check.due("P24 no streets", Check.order(new BinsBothSides(), "0"), -1);
        Check.due("P24 no streets, none told", Check.order(new BinsBothSides(), ""), -1);
    }

    /** "if what a STREET would load does not fit, and LOAD is not 0"; "LOAD or not"; "-200: TIP is shut when it wants to tip". */
    private static void orderTip() {
        BinsBothSides x = Check.town("s60:5/0;s70:6/0");
        x.set(0, 11);
        Check.due("P24 just FULL", Check.order(x, "01"), 600 + 9 + 100 + 9 + 200 + 300);
        Check.due("P24 it tips once", Check.row(x), "1 0");
        x.set(0, 10);
        Check.due("P24 above FULL", Check.order(x, "01"), 600 + 9 + 100 + 300 + 200 + 9 + 200 + 300);
        Check.due("P24 it tips twice", Check.row(x), "2 0");
        x.set(0, 5);
        Check.due("P24 LOAD is 0: it does not tip first", Check.order(x, "10"), 700 + 0 + 100 + 9 + 100 + 300);
        Check.due("P24 what does not fit stays out", Check.row(x), "1 1");
        Check.due("P24 it tips, and then it does not fit all the same", Check.order(x, "01"), 600 + 9 + 400 + 200 + 0 + 500);
        Check.due("P24 the row", Check.row(x), "2 1");
        x.set(0, 100);
        x.set(4, 5);
        Check.due("P24 one that is LEFT does not stay out", Check.order(x, "01"), 600 + 9 + 100 + 2 + 500);
        Check.due("P24 the row", Check.row(x), "1 0");
        x.set(0, 5);
        Check.due("P24 one that is LEFT needs no room", Check.order(x, "01"), 600 + 9 + 100 + 2 + 500);
        BinsBothSides even = Check.town("s60:5/0;s70:5/0");
        even.set(0, 9);
        even.set(4, 5);
        Check.due("P24 as much as LIFT would be loaded", Check.order(even, "01"), 600 + 9 + 100 + 300 + 200 + 9 + 500);
        Check.due("P24 the row", Check.row(even), "2 0");
        BinsBothSides three = Check.town("s50:4/0;s50:4/0;s50:4/0");
        three.set(0, 12);
        Check.due("P24 all that two loaded, and just room for the third", Check.order(three, "012"), 500 + 3 * 8 + 300);
        Check.due("P24 the row", Check.row(three), "1 0");
        three.set(0, 11);
        Check.due("P24 all that two loaded, and no room for the third", Check.order(three, "012"), 500 + 2 * 8 + 300 + 8 + 300);
        Check.due("P24 the row", Check.row(three), "2 0");
        BinsBothSides best = oneMan("s0:9/0", "9+c*9");
        best.set(0, 8);
        Check.due("P24 by its best(), FULL without end: moves though nothing fits", Check.order(best, "0"), 5 + 800);
        Check.due("P24 the row", Check.row(best), "1 1");
        BinsBothSides y = Check.town("s10:5/0;s20:6/0");
        y.set(6, 8);
        Check.due("P24 there in MINUTE 8", Check.order(y, "0"), 100 + 9 + 400 + 300);
        Check.due("P24 there in MINUTE 8, by both", Check.order(y, "01"), 100 + 9 + 100 + 9 + 300 + 300);
        y.set(6, 7);
        Check.due("P24 TIP is shut at the end", Check.order(y, "0"), -200);
        y.set(6, 23);
        y.set(0, 6);
        Check.due("P24 it tips between", Check.order(y, "01"), 809 + 300 + 9 + 600);
        y.set(6, 22);
        Check.due("P24 there again in MINUTE 23", Check.order(y, "01"), -200);
        y.set(6, 7);
        Check.due("P24 TIP is shut between", Check.order(y, "01"), -200);
        BinsBothSides z = Check.town("s10:5/0");
        z.set(6, 8);
        z.pause(30);
        Check.due("P24 NOW 30: there at 539, MINUTE 8", Check.order(z, "0"), 809);
        z.pause(1);
        Check.due("P24 NOW 31: there at 540, MINUTE 9", Check.order(z, "0"), -200);
    }

    /** "if it comes to a mouth in a MINUTE that is BARRED there, it waits till the MINUTE behind to begins". */
    private static void orderBarred() {
        BinsBothSides x = Check.town("s0:1/0x1-2");
        int[] nows = {0, 59, 60, 119, 120, 179, 180};
        int[] waits = {0, 0, 120, 61, 60, 1, 0};
        for (int i = 0; i < nows.length; i++) {
            x.week();
            x.pause(nows[i]);
            Check.due("P24 NOW is " + nows[i], Check.order(x, "0"), waits[i] + 7 + 800);
        }
        BinsBothSides y = Check.town("s0:1/0x0-0;s0:1/0x0-999");
        Check.due("P24 BARRED from 0 to 0", Check.order(y, "0"), 60 + 7 + 800);
        y.set(6, 999);
        Check.due("P24 BARRED for all 1000 MINUTES: TIP is shut then", Check.order(y, "1"), -200);
        y.set(5, 0);
        Check.due("P24 BARRED, and TIP is there: shut still", Check.order(y, "1"), -200);
        Check.due("P24 soonest() waits, too", y.soonest(1), 60 + 7 + 300);
    }

    /** "as all is": LOAD 5 at X 50, where TIP is, in SECOND 509. */
    private static void ordersWithLoad() {
        BinsBothSides x = Check.town("s50:5/0;s50:4/0");
        x.drive(0);
        x.empty(0, 2);
        x.set(0, 9);
        Check.due("P24 it fits", Check.order(x, "1"), 8 + 300);
        Check.due("P24 the row", Check.row(x), "1 0");
        Check.due("P25 it fits", x.soonest(2), 8 + 300);
        Check.due("P26 it fits", x.most(2, 509 + 308), 1);
        Check.due("P26 one SECOND less", x.most(2, 509 + 307), 0);
        x.set(0, 8);
        Check.due("P24 it tips first", Check.order(x, "1"), 300 + 8 + 300);
        Check.due("P24 the row", Check.row(x), "2 0");
        Check.due("P25 it tips first", x.soonest(2), 300 + 8 + 300);
        Check.due("P26 it tips first", x.most(2, 509 + 608), 1);
        Check.due("P26 one SECOND less", x.most(2, 509 + 607), 0);
        Check.due("P24 nothing changes", Check.state(x), "50 5 509 2010");
    }

    /** "of as quick ones the least row"; "-2: TIP is shut for all; NONE: bits of none such, nothing told". */
    private static void soonest() {
        BinsBothSides x = Check.town("s10:1/0;s20:1/0;s10:1/0");
        Check.due("P25 all", x.soonest(7), 821);
        Check.due("P25 0 and 2 are as quick in turn", Check.row(x), "0 2 1");
        x.drive(1);
        Check.due("P25 from NOW on: back to 10, then to TIP", x.soonest(7), 21 + 100 + 400 + 300);
        Check.due("P25 1 ahead or behind is as quick", Check.row(x), "0 2 1");
        Check.due("P25 one", x.soonest(4), 100 + 7 + 400 + 300);
        Check.due("P25 its row", Check.row(x), "2");
        Check.due("P25 nothing told", x.soonest(0), -1);
        Check.due("P25 bit 3", x.soonest(8), -1);
        Check.due("P25 bit 3 and others", x.soonest(15), -1);
        Check.due("P25 bit 31", x.soonest(MIN), -1);
        x.week();
        x.set(6, 8);
        Check.due("P25 some are not shut", x.soonest(7), 821);
        x.set(6, 7);
        Check.due("P25 shut for all", x.soonest(7), -2);
        BinsBothSides y = Check.town("s0:1/0x0-0;s0:1/0");
        Check.due("P25 the row that waits least", y.soonest(3), 60 + 7 + 800);
        Check.due("P25 the row", Check.row(y), "1 0");
        Check.due("P25 no streets", new BinsBothSides().soonest(1), -1);
        BinsBothSides full = Check.town("s20:5/0;s10:6/0");
        full.set(0, 11);
        Check.due("P25 just FULL, by each order", full.soonest(3), 100 + 9 + 100 + 9 + 300 + 300);
        Check.due("P25 the row", Check.row(full), "1 0");
        BinsBothSides six = Check.town("s0:0/0;s0:0/0;s0:0/0;s0:0/0;s0:0/0;s0:0/0");
        Check.due("P25 six", six.soonest(63), 800);
        Check.due("P25 the row of six", Check.row(six), "0 1 2 3 4 5");
        Check.due("P25 bit 6 of six", six.soonest(64), -1);
    }

    /** "v (0 .. 99999) or less"; "how many (0: always)"; "of as many the least". */
    private static void most() {
        BinsBothSides x = oneMan("s0:5/0;s0:3/0;s0:3/0;s0:1/0", "w*4-3");
        // by hand 17, 9, 9, 1, carried 4 more: 21, 13, 13, 5
        Check.due("P26 all", x.most(15, 852), 4);
        Check.due("P26 the row", Check.row(x), "15");
        Check.due("P26 one SECOND less", x.most(15, 851), 3);
        Check.due("P26 the least of three", Check.row(x), "7");
        Check.due("P26 826: 1 and 2, 0 and 3", x.most(15, 826), 2);
        Check.due("P26 the least of two, not the first order", Check.row(x), "6");
        Check.due("P26 825: 3 and another", x.most(15, 825), 2);
        Check.due("P26 the least of two", Check.row(x), "10");
        Check.due("P26 805: one", x.most(15, 805), 1);
        Check.due("P26 its bit", Check.row(x), "8");
        Check.due("P26 804: none", x.most(15, 804), 0);
        Check.due("P26 no bits", Check.row(x), "0");
        Check.due("P26 the least v", x.most(15, 0), 0);
        Check.due("P26 the greatest v", x.most(15, 99999), 4);
        Check.due("P26 v above", x.most(15, 100000), -1);
        Check.due("P26 v below", x.most(15, -1), -1);
        Check.due("P26 bit 4", x.most(16, 5), -1);
        Check.due("P26 bit 31", x.most(MIN, 5), -1);
        Check.due("P26 nothing told", x.most(0, 99999), 0);
        Check.due("P26 no bits", Check.row(x), "0");
        x.set(6, 0);
        Check.due("P26 TIP is shut: 0 always", x.most(15, 99999), 0);
        Check.due("P26 no bits", Check.row(x), "0");
    }

    /** "0: (if it is as soon, or LOAD is 0)"; "2: if it does not fit but by tipping now"; "-2: it does not fit at all". */
    private static void tipnow() {
        BinsBothSides x = Check.town("s10:5/0;s20:6/0");
        x.set(0, 6);
        Check.due("P27 just FULL, LOAD 0", x.tipnow(1), 0);
        Check.due("P27 the row", Check.row(x), (500 + 300 + 300 + 9 + 600) + " " + (200 + 9 + 600));
        x.drive(0);
        x.empty(0, 2);
        Check.due("P27 LOAD 5 and 6 above 6", x.tipnow(1), 2);
        Check.due("P27 the row", Check.row(x), (400 + 300 + 300 + 9 + 600) + " -1");
        x.set(0, 10);
        Check.due("P27 LOAD 5 and 6 above 10", x.tipnow(1), 2);
        x.set(0, 11);
        Check.due("P27 LOAD 5 and 6: just FULL", x.tipnow(1), 0);
        Check.due("P27 the row", Check.row(x), (400 + 300 + 300 + 9 + 600) + " " + (100 + 9 + 600));
        Check.due("P27 nothing to load", x.tipnow(0), 0);
        Check.due("P27 street 2 of two", x.tipnow(2), -1);
        Check.due("P27 street -1", x.tipnow(-1), -1);
        BinsBothSides y = Check.town("s10:5/0;s20:6/0x0-999");
        y.set(0, 5);
        y.set(6, 0);
        Check.due("P27 it does not fit at all", y.tipnow(1), -2);
        Check.due("P27 TIP is never shut", y.tipnow(0), 0);
        y.set(0, 6);
        Check.due("P27 nothing is BARRED", y.tipnow(1), 0);
        y.set(0, 5);
        y.set(4, 5);
        Check.due("P27 one that is LEFT needs no room", y.tipnow(1), 0);
        BinsBothSides up = oneMan("s10:5/0u", "20+u*9");
        Check.due("P27 up", up.tipnow(0), 0);
        Check.due("P27 by its best(), up as it is", Check.row(up), (500 + 300 + 400 + 33 + 700) + " " + (100 + 33 + 700));
    }

    // ---- crews, days

    /** "the least such set"; "the lesser sum"; "NONE: bits of none such". */
    private static void share() {
        BinsBothSides x = oneMan("s0:3/0;s0:3/0;s0:3/0;s0:3/0", "6");
        Check.due("P28 two that are equal", x.share(3), 10);
        Check.due("P28 the least set", Check.row(x), "1 10");
        Check.due("P28 three", x.share(7), 20);
        Check.due("P28 the least set", Check.row(x), "1 10");
        Check.due("P28 four", x.share(15), 20);
        Check.due("P28 the least set", Check.row(x), "3 20");
        Check.due("P28 the others are left aside", x.share(12), 10);
        Check.due("P28 the least set", Check.row(x), "4 10");
        Check.due("P28 one: the other crew has it", x.share(8), 10);
        Check.due("P28 the empty set", Check.row(x), "0 0");
        Check.due("P28 none", x.share(0), 0);
        Check.due("P28 the row", Check.row(x), "0 0");
        Check.due("P28 bit 4", x.share(16), -1);
        Check.due("P28 bit 31", x.share(MIN), -1);
        Check.due("P28 no streets", new BinsBothSides().share(1), -1);
        BinsBothSides hills = oneMan("s0:1/0u;s0:1/0;s0:1/0d", "20+u*10");
        Check.due("P28 34, 24 and 14", hills.share(7), 38);
        Check.due("P28 the row", Check.row(hills), "1 34");
        BinsBothSides six = oneMan("s0:1/0;s0:1/0;s0:1/0;s0:1/0;s0:1/0;s0:5/0", "w*10-4");
        Check.due("P28 six", six.share(63), 50);
        Check.due("P28 the least set", Check.row(six), "31 50");
        Check.due("P28 bit 6 of six", six.share(64), -1);
    }

    /** "later DAYS of the week (v + 1 .. 6)"; "no more than n SECONDS (0 .. 99999)"; "the least sum of DAYS, then the least row". */
    private static void holiday() {
        BinsBothSides x = oneMan("s0:4/0;s0:2/0;s0:2/0", "w*10-4");
        // 40, 20, 20
        Check.due("P29 just n on one DAY", x.holiday(0, 80), 1);
        Check.due("P29 the row", Check.row(x), "1 1 1");
        Check.due("P29 one less", x.holiday(0, 79), 2);
        Check.due("P29 the least sum, then the least row", Check.row(x), "1 1 2");
        Check.due("P29 40: the first alone", x.holiday(0, 40), 2);
        Check.due("P29 the least sum, not the least row", Check.row(x), "2 1 1");
        Check.due("P29 39", x.holiday(0, 39), -2);
        Check.due("P29 n 0", x.holiday(0, 0), -2);
        Check.due("P29 the greatest n", x.holiday(0, 99999), 1);
        Check.due("P29 n above", x.holiday(0, 100000), -1);
        Check.due("P29 n below", x.holiday(0, -1), -1);
        Check.due("P29 DAY 7", x.holiday(7, 0), -1);
        Check.due("P29 DAY -1", x.holiday(-1, 0), -1);
        Check.due("P29 none on DAY 6", x.holiday(6, 0), 0);
        Check.due("P29 an empty row", x.count(9), 0);
        x.dayOf(1, 6);
        x.dayOf(0, 5);
        x.dayOf(2, 4);
        Check.due("P29 DAY 6 is the last: it can't be", x.holiday(6, 99999), -2);
        Check.due("P29 DAY 5: the next", x.holiday(5, 60), 1);
        Check.due("P29 the row", Check.row(x), "6");
        Check.due("P29 those of it, too", x.holiday(5, 59), -2);
        Check.due("P29 DAY 4: the one behind the next", x.holiday(4, 59), 2);
        Check.due("P29 the row", Check.row(x), "6");
        x.dayOf(2, 0);
        Check.due("P29 other DAYS may take more than n", x.holiday(0, 20), 1);
        BinsBothSides y = oneMan("s0:0/0;s0:1/0", "w*10-4");
        y.dayOf(1, 1);
        Check.due("P29 one of 0 SECONDS and a DAY above n", y.holiday(0, 9), 2);
        Check.due("P29 n 0", y.holiday(0, 0), 2);
        BinsBothSides six = oneMan("s0:1/0;s0:1/0;s0:1/0;s0:1/0;s0:1/0;s0:1/0", "6");
        Check.due("P29 six on six DAYS", six.holiday(0, 10), 6);
        Check.due("P29 the row", Check.row(six), "1 2 3 4 5 6");
        Check.due("P29 six on three DAYS", six.holiday(0, 29), 3);
        Check.due("P29 the row", Check.row(six), "1 1 2 2 3 3");
        Check.due("P29 no streets", new BinsBothSides().holiday(6, 0), 0);
    }

    /** "of equal ones the first"; the DAY with the fewest. */
    private static void busiest() {
        BinsBothSides none = new BinsBothSides();
        none.weighed(0, 0);
        Check.due("P30 no streets", none.busiest(), 0);
        Check.due("P30 the row", Check.row(none), "0 0");
        BinsBothSides two = oneMan("s0:1/0;s0:2/0", "w*10-4");
        two.dayOf(1, 1);
        Check.due("P30 DAY 1", two.busiest(), 1);
        Check.due("P30 the row", Check.row(two), "20 0");
        two.set(0, 1);
        Check.due("P30 FULL without end", two.busiest(), 1);
        two.set(0, 2);
        two.empty(1, 2);
        Check.due("P30 as its BINS are: DAY 0 now", two.busiest(), 0);
        Check.due("P30 the row", Check.row(two), "10 0");
        BinsBothSides six = oneMan("s0:1/0;s0:2/0;s0:3/0;s0:4/0;s0:5/0;s0:5/0", "w*10-4");
        for (int s = 0; s < 6; s++) {
            six.dayOf(s, s + 1);
        }
        Check.due("P30 DAY 5 and 6 are equal", six.busiest(), 5);
        Check.due("P30 DAY 0 has the fewest", Check.row(six), "50 0");
        six.dayOf(5, 0);
        Check.due("P30 DAY 0 and 5 are equal", six.busiest(), 0);
        Check.due("P30 DAY 6 has the fewest", Check.row(six), "50 0");
        six.dayOf(0, 6);
        six.dayOf(1, 6);
        six.dayOf(3, 6);
        Check.due("P30 DAY 6", six.busiest(), 6);
        Check.due("P30 the row", Check.row(six), "70 0");
    }

    // ---- rubble

    /** "(none, too)"; "v (0 .. 9999)"; "Refused: others, 10". */
    private static void weighed() {
        BinsBothSides x = Check.town("s0:1/1;s0:1/1");
        Check.due("P31 none, the least", x.weighed(0, 0), 1);
        Check.due("P31 all, the greatest", x.weighed(3, 9999), 2);
        Check.due("P31 v above", x.weighed(3, 10000), -1);
        Check.due("P31 v below", x.weighed(3, -1), -1);
        Check.due("P31 bit 2", x.weighed(4, 0), -1);
        Check.due("P31 bit 31", x.weighed(MIN, 0), -1);
        for (int i = 3; i <= 10; i++) {
            Check.due("P31 no. " + i, x.weighed(3, 2), i);
        }
        Check.due("P31 there are 10", x.weighed(3, 2), -1);
        Check.due("P41 10 loads", x.count(7), 10);
        Check.due("P32 there were 10", x.forget(), 10);
        Check.due("P32 there are none", x.forget(), 0);
        Check.due("P31 one again", x.weighed(1, 2), 1);
        Check.due("P31 no streets, none told", new BinsBothSides().weighed(0, 0), 1);
        Check.due("P31 no streets", new BinsBothSides().weighed(1, 0), -1);
    }

    /** "any, also without WEIGHT"; "of which one alone, with d (1 .. 99) more each time"; "nothing without". */
    private static void rubble() {
        Check.due("P33 no streets", new BinsBothSides().rubble(), 0);
        BinsBothSides x = Check.town("s0:00/00;s0:9/0");
        int[] weights = {0, 1, 99, 100};
        int[] pairs = {0, 4, 4, 0};
        for (int i = 0; i < weights.length; i++) {
            x.forget();
            x.weighed(1, weights[i]);
            x.best(0);
            Check.due("P33 " + weights[i] + " in houses without WEIGHT", x.rubble(), pairs[i] + (i == 0 ? 2 * 99 : 0));
            Check.due("P33 the row", Check.row(x), i == 0 ? "1 0 0 1" : i == 3 ? "" : "0 0 0 " + weights[i]);
        }
        x.forget();
        x.weighed(0, 0);
        Check.due("P33 none told, and nothing there", x.rubble(), 6 * 99);
        x.weighed(2, 8);
        Check.due("P33 less than it is", x.rubble(), 0);
        Check.due("P33 nothing without", x.count(9), 0);
        x.forget();
        x.weighed(3, 12);
        x.weighed(2, 12);
        Check.due("P33 in both loads, in the second alone", x.rubble(), 2);
        Check.due("P33 the row", Check.row(x), "1 0 0 3");
        x.weighed(3, 13);
        Check.due("P33 not more each time", x.rubble(), 0);
        x.forget();
        x.weighed(1, 1);
        x.weighed(2, 10);
        Check.due("P33 not one alone", x.rubble(), 0);
        x.forget();
        x.weighed(2, 9 * 2 * 19 / 10 + 5);
        Check.due("P33 by RAIN and TWICE as they are: 26 more", x.rubble(), 2);
        Check.due("P33 the row", Check.row(x), "1 0 0 30");
        x.set(2, 9);
        x.set(3, 2);
        x.set(4, 1);
        Check.due("P33 by RAIN and TWICE as they are: 5 more, LIFT left aside", x.rubble(), 2);
        Check.due("P33 the row", Check.row(x), "1 0 0 5");
        x.empty(1, 2);
        Check.due("P33 out or not", x.rubble(), 2);
    }

    /** "1 if all that was weighed is so without any, else 0". */
    private static void whose() {
        BinsBothSides none = new BinsBothSides();
        Check.due("P34 no streets", none.whose(), 0);
        Check.due("P34 nothing was weighed: so without any", Check.row(none), "1");
        none.weighed(0, 1);
        Check.due("P34 no streets, more than nothing", none.whose(), 0);
        Check.due("P34 not so", Check.row(none), "0");
        BinsBothSides x = Check.town("s0:1/0;s0:2/0;s0:3/0;s0:0/0;s0:0/0;s0:1/0");
        Check.due("P34 nothing was weighed: all", x.whose(), 63);
        Check.due("P34 so without any", Check.row(x), "1");
        x.weighed(63, 7);
        Check.due("P34 all are in it: no d", x.whose(), 0);
        Check.due("P34 so without any", Check.row(x), "1");
        x.forget();
        x.weighed(33, 2);
        Check.due("P34 others", x.whose(), 30);
        Check.due("P34 so without any", Check.row(x), "1");
        x.weighed(48, 2);
        Check.due("P34 4 alone", x.whose(), 16);
        Check.due("P34 not so", Check.row(x), "0");
        x.forget();
        Check.due("P34 what is forgotten does not count: all", x.whose(), 63);
        Check.due("P34 so without any", Check.row(x), "1");
        x.weighed(33, 2);
        Check.due("P34 nor does it behind others", x.whose(), 30);
        Check.due("P34 so without any", Check.row(x), "1");
    }

    /** "(bits; none, too)"; "of as good ones the least bits"; "-2: there is no such pair". */
    private static void next() {
        Check.due("P35 no streets", new BinsBothSides().next(), -2);
        BinsBothSides x = Check.town("s0:1/0;s0:2/0;s0:3/0;s0:0/0;s0:0/0;s0:1/0");
        Check.due("P35 six of two houses: three and three", x.next(), 7);
        Check.due("P35 the row", Check.row(x), "" + 6 * 99);
        x.weighed(32, 4);
        Check.due("P35 one street: none, too", x.next(), 0);
        Check.due("P35 all are left", Check.row(x), "2");
        x.forget();
        x.weighed(48, 4);
        Check.due("P35 two streets: the lesser", x.next(), 16);
        Check.due("P35 half are left", Check.row(x), "2");
        x.weighed(0, 1);
        Check.due("P35 there is no such pair", x.next(), -2);
    }

    // ---- odds, weeks

    /** "p tenths (0 .. 10)"; "(0 by 1)". */
    private static void right() {
        BinsBothSides x = Check.town("s0:1/0;s0:0/0;s0:11111111/11111111");
        int[] ps = {0, 1, 2, 5, 10};
        String[] one = {"0 1", "1 10", "1 5", "1 2", "1 1"};
        for (int i = 0; i < ps.length; i++) {
            Check.due("P36 one bin, p " + ps[i], x.right(0, ps[i]), 0);
            Check.due("P36 the row", Check.row(x), one[i]);
            Check.due("P36 no bin, p " + ps[i], x.right(1, ps[i]), 0);
            Check.due("P36 the row of no bin", Check.row(x), "1 1");
        }
        x.right(2, 10);
        Check.due("P36 16 bins, p 10", Check.row(x), "1 1");
        x.right(2, 0);
        Check.due("P36 16 bins, p 0", Check.row(x), "0 1");
        x.right(2, 7);
        Check.due("P36 16 bins, p 7", Check.row(x), "33232930569601 10000000000000000");
        x.right(2, 8);
        Check.due("P36 16 bins, p 8", Check.row(x), "4294967296 152587890625");
        x.empty(0, 2);
        x.right(0, 0);
        Check.due("P36 none is out any more", Check.row(x), "1 1");
        Check.due("P37 none is out any more", x.care(0, 100), 0);
        Check.due("P36 p 11", x.right(0, 11), -1);
        Check.due("P36 p -1", x.right(0, -1), -1);
        Check.due("P36 street 3 of three", x.right(3, 5), -1);
        Check.due("P36 street -1", x.right(-1, 5), -1);
    }

    /** "(0 .. 10)"; "v (0 .. 100) in 100 or more". */
    private static void care() {
        BinsBothSides x = Check.town("s0:1/0;s0:0/0;s0:11111111/11111111;s0:11/10;s0:11/00");
        int[][] calls = {{0, 0, 0}, {0, 1, 1}, {0, 10, 1}, {0, 11, 2}, {0, 90, 9}, {0, 91, 10}, {0, 100, 10}, {1, 0, 0}, {1, 100, 0},
            {2, 0, 0}, {2, 1, 8}, {2, 2, 8}, {2, 3, 9}, {2, 18, 9}, {2, 19, 10}, {2, 100, 10}, {3, 72, 9}, {3, 73, 10}, {4, 81, 9}, {4, 82, 10}};
        for (int[] call : calls) {
            Check.due("P37 care(" + call[0] + ", " + call[1] + ")", x.care(call[0], call[1]), call[2]);
        }
        Check.due("P37 v 101", x.care(0, 101), -1);
        Check.due("P37 v -1", x.care(0, -1), -1);
        Check.due("P37 street 5 of five", x.care(5, 0), -1);
        Check.due("P37 street -1", x.care(-1, 0), -1);
    }

    /** "n WEEKS (1 .. 20)", "p (0 .. 10)", "NONE: others, there are no STREETS", "(NONE, NONE)". */
    private static void weeks() {
        Check.due("P38 no streets", new BinsBothSides().weeks(1, 1, 5), -1);
        BinsBothSides x = Check.town("s10:1/0;s5:0/0");
        Check.due("P38 the fewest WEEKS", x.weeks(MIN, 1, 10), 1);
        Check.due("P38 the row", Check.row(x), "" + (100 + 7 + 50 + 450 + 300) + " 907");
        Check.due("P38 the most WEEKS, p 0", x.weeks(MAX, 20, 0), 20);
        Check.due("P38 the row", Check.row(x), "900 900");
        Check.order(x, "10");
        Check.due("P38 in the order 0, 1, whatever was ordered ahead", x.weeks(MAX, 20, 0), 20);
        Check.due("P38 the row", Check.row(x), "900 900");
        BinsBothSides six = Check.town("s1:0/0;s0:0/0;s1:0/0;s0:0/0;s1:0/0;s0:0/0");
        Check.due("P38 six streets", six.weeks(1, 1, 5), 1);
        Check.due("P38 the row", Check.row(six), (60 + 500 + 300) + " 860");
        Check.due("P38 no WEEK", x.weeks(1, 0, 5), -1);
        Check.due("P38 21 WEEKS", x.weeks(1, 21, 5), -1);
        Check.due("P38 p -1", x.weeks(1, 1, -1), -1);
        Check.due("P38 p 11", x.weeks(1, 1, 11), -1);
        x.pause(600);
        x.drive(0);
        x.set(6, 10);
        Check.due("P38 X, NOW are 0: there in MINUTE 10", x.weeks(5, 20, 10), 20);
        x.set(6, 9);
        Check.due("P38 shut in all", x.weeks(5, 20, 10), 0);
        Check.due("P38 NONE, NONE", Check.row(x), "-1 -1");
        BinsBothSides y = Check.town("s0:5/0");
        y.empty(0, 2);
        y.set(0, 5);
        Check.due("P38 LOAD is 0: it does not tip first", y.weeks(1, 1, 10), 1);
        Check.due("P38 the row", Check.row(y), "809 809");
    }

    /** "a DRAW of 10 is below p"; "the left side by blocks, then the right"; "R without sign". */
    private static void weeksDraws() {
        // from seed 1 the draws are 8 (R 1103527590), 6 (R -1770082073), 3 (R 662824084), 3 (R -999580867), 9, 5, 8, 7
        BinsBothSides x = oneMan("s0:1/0", "9");
        x.set(5, 0);
        String[] rows = {"300 300", "300 300", "300 300", "300 300", "300 313", "300 313", "300 313", "300 313", "300 313", "300 313", "313 313"};
        for (int p = 0; p <= 10; p++) {
            x.weeks(1, 8, p);
            Check.due("P38 eight draws of seed 1, p " + p, Check.row(x), rows[p]);
        }
        x.weeks(1, 4, 8);
        Check.due("P38 8 is not below 8", Check.row(x), "300 313");
        x.weeks(1, 4, 9);
        Check.due("P38 8 is below 9", Check.row(x), "313 313");
        BinsBothSides y = oneMan("s0:12/04;s0:8/0", "w*10+c*90");
        y.set(5, 0);
        // p 4: draws 8, 6, 3, 3 of left 0, left 1, right 1 and street 1: right 1 (moves 10, both at once 11 more, or 20), street 1 (5)
        y.weeks(1, 1, 4);
        Check.due("P38 the right one and the next street are out", Check.row(y), (300 + 40 + 20 + 80 + 5) + " " + (300 + 40 + 20 + 80 + 5));
        y.weeks(1, 2, 4);
        // 9, 5, 8, 7: none is out
        Check.due("P38 the second week goes on with R", Check.row(y), (300 + 10 - 10 + 0) + " 445");
        BinsBothSides sides = oneMan("s0:12/30", "w*10+c*90");
        sides.set(5, 0);
        // p 4: draws 8, 6, 3 of left 0, left 1, right 0: the third one is of the right side
        sides.weeks(1, 1, 4);
        Check.due("P38 the left side, then the right", Check.row(sides), (300 + 20 + 30) + " 350");
        // from seed -1: 7, 9, 2, 6, 3, 4, 8, 1; from seed 7: 2 (R -865315532), 6, 8, 4
        x.weeks(-1, 8, 2);
        Check.due("P38 seed -1, the eighth alone", Check.row(x), "300 313");
        x.weeks(-1, 7, 2);
        Check.due("P38 seed -1, none of seven", Check.row(x), "300 300");
        x.weeks(7, 1, 3);
        Check.due("P38 seed 7, R without sign: 2", Check.row(x), "313 313");
        x.weeks(7, 1, 2);
        Check.due("P38 seed 7: 2 is not below 2", Check.row(x), "300 300");
        // from seed 0 the first draw is 0 (R 12345)
        x.weeks(0, 1, 1);
        Check.due("P38 seed 0: 0 is below 1", Check.row(x), "313 313");
        x.weeks(0, 1, 0);
        Check.due("P38 seed 0: 0 is not below 0", Check.row(x), "300 300");
        // from the least seed 8 (R -2147471303), from the greatest 9 (R 1043980748)
        x.weeks(MIN, 1, 9);
        Check.due("P38 the least seed", Check.row(x), "313 313");
        x.weeks(MAX, 1, 9);
        Check.due("P38 the greatest seed", Check.row(x), "300 300");
    }

    // ---- kept

    /** "a number 0 .. 2"; "Refused: nothing kept, STREETS came since, FULL is less than LOAD was". */
    private static void keep() {
        BinsBothSides x = Check.town("s0:9/0;s7:3/0");
        for (int i = 0; i <= 2; i++) {
            Check.due("P40 nothing kept under " + i, x.again(i), false);
        }
        Check.due("P39 -1", x.keep(-1), false);
        Check.due("P39 3", x.keep(3), false);
        Check.due("P40 -1", x.again(-1), false);
        Check.due("P40 3", x.again(3), false);
        Check.due("P39 the least", x.keep(0), true);
        x.empty(0, 2);
        Check.due("P39 the greatest", x.keep(2), true);
        Check.due("P40 nothing kept under 1", x.again(1), false);
        x.tip();
        x.set(0, 8);
        Check.due("P40 FULL is less than LOAD was", x.again(2), false);
        Check.due("P40 it is not than that one", x.again(0), true);
        x.set(0, 9);
        Check.due("P40 FULL is as much", x.again(2), true);
        Check.due("P40 the state", Check.state(x), "0 9 11 2010");
        Check.streets(x, "");
        Check.streets(x, "s7:3/");
        Check.due("P40 none came", x.again(0), true);
        Check.due("P40 the state", Check.state(x), "0 0 0 1010");
        Check.streets(x, "s7:3/0");
        for (int i = 0; i <= 2; i++) {
            Check.due("P40 streets came since, " + i, x.again(i), false);
        }
        Check.due("P39 kept anew", x.keep(2), true);
        x.pause(5);
        Check.due("P39 and over it", x.keep(2), true);
        x.week();
        Check.due("P40 the latest", x.again(2), true);
        Check.due("P40 NOW", x.count(3), 5);
        Check.due("P40 the other one is gone still", x.again(0), false);
    }

    /** "-100 for another what". */
    private static void count() {
        BinsBothSides x = new BinsBothSides();
        Check.due("P41 what -1", x.count(-1), -100);
        Check.due("P41 what 0", x.count(0), 0);
        Check.due("P41 what 11", x.count(11), 100);
        Check.due("P41 what 12", x.count(12), -100);
        Check.due("P41 MIN", x.count(MIN), -100);
        Check.due("P41 MAX", x.count(MAX), -100);
        BinsBothSides six = Check.town("s0:11111111/11111111;s0:11111111/11111111;s0:11111111/11111111;s0:11111111/11111111;s0:11111111/11111111;s0:11111111/11111111");
        Check.due("P41 the most bins that are out", six.count(4), 96);
        six.empty(0, 0);
        six.set(2, 9);
        six.set(3, 2);
        six.set(4, 1);
        six.empty(5, 0);
        Check.due("P41 out", six.count(4), 64);
        Check.due("P41 EMPTIED", six.count(5), 16);
        Check.due("P41 LEFT", six.count(6), 16);
    }

    /** "NoSuchElementException: none such"; the ROW stays with NONE and with numbers that tell why there is no answer. */
    private static void row() {
        BinsBothSides x = Check.town("s0:9/0;s7:3/0");
        Check.dueThrows("P42 no row", () -> x.row(0));
        x.takes(0, 0);
        Check.due("P42 the last", x.row(1), 10);
        Check.dueThrows("P42 behind the last", () -> x.row(2));
        Check.dueThrows("P42 -1", () -> x.row(-1));
        Check.dueThrows("P42 MIN", () -> x.row(MIN));
        Check.dueThrows("P42 MAX", () -> x.row(MAX));
        x.best(0);
        Check.due("P42 a longer row", x.row(2), 11);
        x.right(0, 5);
        Check.dueThrows("P42 a shorter row", () -> x.row(2));
        x.rubble();
        Check.due("P42 a row of four", x.row(3), 1);
        Check.dueThrows("P42 behind it", () -> x.row(4));
        x.weighed(0, 1);
        x.rubble();
        Check.dueThrows("P42 an empty row", () -> x.row(0));
    }
}
