import java.util.NoSuchElementException;

/** What the project's tests share: telling texts, reading rows, counting what is wrong. */
final class Check {
    private static int passed = 0;
    private static int wrong = 0;

    private Check() {
    }

    static void due(String what, long got, long want) {
        if (got == want) {
            passed++;
        } else {
            wrong++;
            System.out.println(what + " answered " + got + ", due is " + want);
        }
    }

    static void due(String what, boolean got, boolean want) {
        due(what, got ? 1 : 0, want ? 1 : 0);
    }

    static void due(String what, String got, String want) {
        if (got.equals(want)) {
            passed++;
        } else {
            wrong++;
            System.out.println(what + " answered " + got + ", due is " + want);
        }
    }

    interface Call {
        void run();
    }

    static void dueThrows(String what, Call call) {
        String got = "nothing";
        try {
            call.run();
        } catch (NoSuchElementException e) {
            got = "NoSuchElementException";
        } catch (RuntimeException e) {
            got = e.toString();
        }
        due(what + " throws", got, "NoSuchElementException");
    }

    /** The text tells just these signs. */
    static BinsBothSides say(BinsBothSides x, String signs) {
        x.end(0);
        for (int i = 0; i < signs.length(); i += 4) {
            int v = 0;
            for (int k = i; k < i + 4; k++) {
                v = v << 8 | (k < signs.length() ? signs.charAt(k) & 255 : 0);
            }
            x.sign(v);
        }
        if (!x.end(signs.length())) {
            throw new IllegalStateException("a text that is too long for a test: " + signs);
        }
        return x;
    }

    /** A new object with streets; lines that are too long for one text come by several. */
    static BinsBothSides town(String lines) {
        BinsBothSides x = new BinsBothSides();
        if (!lines.isEmpty()) {
            for (String line : lines.split(";")) {
                if (say(x, line).streets() != 1) {
                    throw new IllegalStateException("no line: " + line);
                }
            }
        }
        return x;
    }

    static int streets(BinsBothSides x, String signs) {
        return say(x, signs).streets();
    }

    static int rule(BinsBothSides x, String signs) {
        return say(x, signs).rule();
    }

    static int round(BinsBothSides x, String signs) {
        return say(x, signs).round();
    }

    static int order(BinsBothSides x, String signs) {
        return say(x, signs).order();
    }

    static String row(BinsBothSides x) {
        int numbers = x.count(9);
        StringBuilder row = new StringBuilder();
        for (int i = 0; i < numbers; i++) {
            row.append(i == 0 ? "" : " ").append(x.row(i));
        }
        return row.toString();
    }

    /** All that undo() brings back. */
    static String state(BinsBothSides x) {
        StringBuilder state = new StringBuilder();
        state.append(x.count(1)).append(' ').append(x.count(2)).append(' ').append(x.count(3)).append(' ');
        int streets = x.count(0);
        for (int s = 0; s < streets; s++) {
            int blocks = x.street(s, 1);
            for (int house = 0; house < 2 * blocks; house++) {
                state.append(x.bin(s, house / blocks, house % blocks, 2));
            }
        }
        return state.toString();
    }

    static void end(String name) {
        System.out.println(name + ": " + passed + " as due, " + wrong + " not");
        if (wrong != 0) {
            System.exit(1);
        }
    }
}
