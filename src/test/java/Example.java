/** A morning of two streets. */
public final class Example {
    public static void main(String[] args) {
        BinsBothSides bins = new BinsBothSides();

        // a street at 10: weights 3, 5 on the left, 4, none on the right, up; a dead end at 30, barred in minutes 5 to 6
        tell(bins, "s10:35/40u;s30:9/0!x5-6");
        show("streets that came", bins.streets());
        tell(bins, "8+w+u*5");
        show("the rule stands", bins.rule());

        show("street 0 is best done by", bins.best(0));
        show("which takes seconds", bins.row(bins.best(0)));
        show("a man less costs seconds", bins.less(0));
        show("all is done the soonest in seconds", bins.soonest(3));
        show("by going first to", bins.row(0));

        tell(bins, "g0;e02;g1;e12;t");
        show("acts that were done", bins.round());
        show("one was refused", bins.row(0));
        tell(bins, "p120;e12;t");
        show("acts that were done", bins.round());
        show("now", bins.count(3));
        show("what is left to undo", bins.undo());
        show("bins that are out", bins.count(4));

        tell(bins, "s7:3;");
        show("a text that is wrong at sign 4", bins.streets());
        show("a call that is refused", bins.drive(9));
        try {
            bins.street(9, 0);
        } catch (java.util.NoSuchElementException e) {
            System.out.println("no street 9");
        }
    }

    /** Four signs a call, the highest byte first; what the last call has too many is cut. */
    private static void tell(BinsBothSides bins, String text) {
        bins.end(0);
        for (int i = 0; i < text.length(); i += 4) {
            int four = 0;
            for (int k = i; k < i + 4; k++) {
                four = four << 8 | (k < text.length() ? text.charAt(k) : 0);
            }
            bins.sign(four);
        }
        bins.end(text.length());
    }

    private static void show(String what, long number) {
        System.out.println(what + ": " + number);
    }
}
