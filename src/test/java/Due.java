/** What all tests share: compares answers with those that are due, tells those that differ, ends with 1 if any did. */
final class Due {
    private static final int MOST_TOLD = 40;

    private final String test;
    private int asked;
    private int wrong;

    Due(String test) {
        this.test = test;
    }

    void is(String call, long got, long want) {
        asked++;
        if (got != want) {
            tell(call + " answered " + got + ", due is " + want);
        }
    }

    void holds(String what, boolean is) {
        asked++;
        if (!is) {
            tell("not so: " + what);
        }
    }

    int wrongs() {
        return wrong;
    }

    private void tell(String line) {
        wrong++;
        if (wrong <= MOST_TOLD) {
            System.out.println(test + ": " + line);
        }
    }

    void end() {
        System.out.println(test + ": " + asked + " answers, " + wrong + " not as due");
        if (wrong > 0) {
            System.exit(1);
        }
    }

    /** Feeds a text to the tape, eight bytes at a time, and cuts off what was put behind it. */
    static void feed(OilTown town, String text) {
        int had = town.count(12);
        for (int at = 0; at < text.length(); at += 8) {
            long v = 0;
            for (int i = 0; i < 8; i++) {
                int b = at + i < text.length() ? text.charAt(at + i) & 255 : 0;
                v = v << 8 | b;
            }
            town.feed(v);
        }
        town.end(had + text.length());
    }

    /** Tells orders by a text; what orders() answered. */
    static int orders(OilTown town, String text) {
        feed(town, text);
        return town.orders();
    }

    static OilTown withPersons(int n) {
        OilTown town = new OilTown();
        for (int p = 0; p < n; p++) {
            town.person();
        }
        return town;
    }
}
