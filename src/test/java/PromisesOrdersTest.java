/** Promises 21 to 27: feed, end, orders, fault, line, voids, lets. */
public final class PromisesOrdersTest {
    private static final int MIN = Integer.MIN_VALUE, MAX = Integer.MAX_VALUE;
    private static final Due due = new Due("PromisesOrdersTest");

    public static void main(String[] args) {
        feed();
        end();
        taken();
        faultsOfTokens();
        faultsOfPlaces();
        faultsOfBounds();
        faultsOfLines();
        faultsOfWhatIsTold();
        faultsChangeNothing();
        bytes();
        line();
        voids();
        voidsShowEarlierLines();
        lets();
        letsUnderTheOtherRule();
        due.end();
    }

    private static void feed() {
        OilTown x = new OilTown();
        for (int n = 8; n <= 160; n += 8) {
            due.is("feed", x.feed(0x736875743b202020L), n);
        }
        due.is("feed", x.feed(0), OilTown.FULL);
        due.is("count(12)", x.count(12), 160);
        x.end(153);
        due.is("161 were too many", x.feed(0), OilTown.FULL);
        due.is("count(12)", x.count(12), 153);
        x.end(152);
        due.is("feed", x.feed(0), 160);

        x = new OilTown();
        x.feed(0x736875743b202020L);
        due.is("the highest first: shut;", x.orders(), 1);
        due.is("line(0, 0)", x.line(0, 0), 4);
        x.feed(0x20202020202020ffL);
        due.is("the last byte's place", x.orders(), -17);
        x.feed(0xff20202020202020L);
        due.is("the first byte's place", x.orders(), -10);
    }

    private static void end() {
        OilTown x = new OilTown();
        due.is("end(0)", x.end(0), 0);
        due.is("end(1)", x.end(1), OilTown.BAD);
        x.feed(0x2020202020202020L);
        x.feed(0x2020202020202020L);
        due.is("end(17)", x.end(17), OilTown.BAD);
        due.is("end(-1)", x.end(-1), OilTown.BAD);
        due.is("end(MIN)", x.end(MIN), OilTown.BAD);
        due.is("end(MAX)", x.end(MAX), OilTown.BAD);
        due.is("end(16)", x.end(16), 16);
        due.is("end(3)", x.end(3), 16);
        due.is("end(3)", x.end(3), 3);
        due.is("count(12)", x.count(12), 3);
        due.is("feed goes behind", x.feed(0), 11);
        due.is("its first byte is at 3", x.orders(), -13);
        due.is("empty then", x.count(12), 0);
    }

    private static void text(String text, int answer, int fault) {
        OilTown x = new OilTown();
        due.is("orders of \"" + text + "\"", Due.orders(x, text), answer);
        due.is("fault of \"" + text + "\"", x.fault(), fault);
        due.is("the tape behind \"" + text + "\"", x.count(12), 0);
        due.is("lines behind \"" + text + "\"", x.count(6), Math.max(0, answer));
    }

    private static void taken() {
        text("", 0, 0);
        text("     ", 0, 0);
        text("near 3;", 1, 0);
        text("near3;apart4;", 2, 0);
        text("from49near9;", 1, 0);
        text("  from  49  near  9  ;  ", 1, 0);
        text("near 0; apart 0; each 0; acre 0; shut; except 0;", 6, 0);
        text("near 9; apart 9; each 999; acre 999; except 5;", 5, 0);
        text("near 007;", 1, 0);
        text("except 0;except 1;except 2;except 3;except 4;except 5;", 6, 0);
    }

    private static void faultsOfTokens() {
        text("Near 1;", -10, 1);
        text("near\t1;", -14, 1);
        text("near 1,", -16, 1);
        text("near -1;", -15, 1);
        text("nearer 1;", -10, 1);
        text("nea 1;", -10, 1);
        text("near nearer;", -15, 1);
        text("near 1234;", -15, 1);
        text("near 0001;", -15, 1);
        text("near 1 1000", -17, 1);
        text("shut x;", -15, 1);
        text("shut; _", -16, 1);
        text("from 1000 shut;", -15, 1);
        text("shut:", -14, 1);
    }

    private static void faultsOfPlaces() {
        text(";", -10, 2);
        text("  3;", -12, 2);
        text("shut;;", -15, 2);
        text("near", -14, 2);
        text("near   ", -17, 2);
        text("near 1", -16, 2);
        text("near 1 ", -17, 2);
        text("near ;", -15, 2);
        text("near near 1;", -15, 2);
        text("near 1 2;", -17, 2);
        text("near 1 shut;", -17, 2);
        text("shut 1;", -15, 2);
        text("shut", -14, 2);
        text("from", -14, 2);
        text("from near 1;", -15, 2);
        text("from 1", -16, 2);
        text("from 1;", -16, 2);
        text("from 1 2;", -17, 2);
        text("from 1 from 2 shut;", -17, 2);
        text("12near 1;", -10, 2);
    }

    private static void faultsOfBounds() {
        text("near 10;", -15, 3);
        text("apart 10;", -16, 3);
        text("from 50 shut;", -15, 3);
        text("from 999 shut;", -15, 3);
        text("except 6;", -17, 3);
        text("near 10 A", -15, 3);
        text("from 50", -15, 3);
        text("from 1 apart   99", -25, 3);
    }

    private static void faultsOfLines() {
        text(Towns.shuts(12), 12, 0);
        text(Towns.shuts(13), -132, 4);
        text(Towns.shuts(12) + "  near 1;", -134, 4);
        text(Towns.shuts(12) + "from", -132, 4);
        text(Towns.shuts(12) + "from0shut;", -132, 4);
        text(Towns.shuts(12) + "nearer", -132, 1);
        text(Towns.shuts(12) + "   ", 12, 0);
        // a token that begins no line is misplaced behind twelve lines as it is behind one
        text(Towns.shuts(12) + ";", -132, 2);
    }

    private static void faultsOfWhatIsTold() {
        text("shut;shut;", -15, 5);
        text("shut; from 0 shut;", -23, 5);
        text("shut; from 1 shut;", 2, 0);
        text("near 1; near 2;", -18, 5);
        text("near 1; near 10;", -18, 5);
        text("near 1; near 1000;", -18, 5);
        text("near 1; near A", -18, 5);
        text("near 1; apart 1; each 1; acre 1; apart 2;", -43, 5);
        text("each 1; each 1;", -18, 5);
        text("acre 1; acre 1;", -18, 5);
        text("except 1; except 1;", -27, 5);
        text("except 1; except 6;", -27, 3);
        text("except 1; except;", -26, 2);
        text("except 1; except 2;", 2, 0);
        text("except 1; from 1 except 1;", 2, 0);
        text("from 1 except 1; from 1 except 1 A", -41, 5);
    }

    private static void faultsChangeNothing() {
        OilTown x = new OilTown();
        due.is("orders", Due.orders(x, "near 1; apart 2;"), 2);
        x.voids(1);
        due.is("orders", Due.orders(x, "each 1; shut; near 10;"), -29);
        due.is("fault", x.fault(), 3);
        due.is("lines stay", x.count(6), 2);
        due.is("line(0, 0)", x.line(0, 0), 0);
        due.is("void stays", x.line(1, 3), 1);
        due.is("fault stays", x.fault(), 3);
        due.is("orders", Due.orders(x, "apart 2; acre 7; near 1;"), 3);
        due.is("fault", x.fault(), 0);
        due.is("line(0, 0)", x.line(0, 0), 1);
        due.is("told anew: not void", x.line(1, 3), 0);
        x.voids(1);
        due.is("orders", Due.orders(x, "shut; shut;"), -16);
        due.is("orders", Due.orders(x, "near 1; apart 1;"), 2);
        due.is("told anew: not void", x.line(1, 3), 0);
        due.is("an empty text", x.orders(), 0);
        due.is("tells no lines", x.count(6), 0);
    }

    private static void bytes() {
        for (int b = 0; b < 256; b++) {
            boolean token = b == ' ' || b == ';' || b >= '0' && b <= '9' || b >= 'a' && b <= 'z';
            if (!token) {
                text("shut;" + (char) b, -15, 1);
            }
        }
    }

    private static void line() {
        OilTown x = new OilTown();
        Due.orders(x, "near 1;from 2 apart 3;each 456;from 49 acre 78;from 5 shut;except 4;");
        int[][] want = {{0, 0, 1}, {1, 2, 3}, {2, 0, 456}, {3, 49, 78}, {4, 5, 0}, {5, 0, 4}};
        for (int k = 0; k < 6; k++) {
            for (int what = 0; what < 3; what++) {
                due.is("line(" + k + ", " + what + ")", x.line(k, what), want[k][what]);
            }
            due.is("line(" + k + ", 3)", x.line(k, 3), 0);
        }
        int[][] bad = {{-1, 0}, {6, 0}, {12, 0}, {0, -1}, {0, 4}, {MIN, 0}, {0, MAX}};
        for (int[] b : bad) {
            due.is("line(" + b[0] + ", " + b[1] + ")", x.line(b[0], b[1]), OilTown.BAD);
        }
        x.voids(4);
        due.is("line(4, 3)", x.line(4, 3), 1);
        due.is("a void line is one still", x.count(6), 6);
    }

    /** One cell of oil with a well that draws 40 a shift, for some shifts. */
    private static OilTown drawn(int shifts) {
        OilTown x = Towns.oneCell(1, 999, 0);
        x.drill(0, 0, 10);
        Towns.hours(x, 4 * shifts);
        return x;
    }

    private static void voids() {
        OilTown x = drawn(3);
        for (int k : new int[] {-1, 0, MIN, MAX}) {
            due.is("voids(" + k + ")", x.voids(k), -100000);
        }
        Due.orders(x, "each 30; near 5; from 2 shut;");
        due.is("10, 10, 40", x.count(10), 60);
        due.is("a line that lets no barrel be hot", x.voids(1), 0);
        due.is("the shut", x.voids(2), 30);
        due.is("the each", x.voids(0), 30);
        due.is("count(10)", x.count(10), 0);
        due.is("void", x.voids(0), -100002);
        due.is("void", x.voids(2), -100002);
        due.is("voids(3)", x.voids(3), -100000);
    }

    private static void voidsShowEarlierLines() {
        OilTown x = drawn(2);
        Due.orders(x, "each 5; from 1 each 100;");
        due.is("35 and 0", x.count(10), 35);
        due.is("35 more", x.voids(1), -35);
        due.is("count(10)", x.count(10), 70);
        due.is("all of them", x.voids(0), 70);
    }

    private static void lets() {
        OilTown x = Due.withPersons(2);
        x.field(6, 6);
        for (int c = 0; c < 36; c++) {
            x.lay(c, c == 35 ? 1 : 0);
        }
        x.owner(0, 0);
        due.is("another lot 10 away", x.lets(0, 0, 0), 9);
        due.is("9 away", x.lets(0, 1, 0), 9);
        due.is("8 away", x.lets(0, 2, 0), 8);
        due.is("1 away", x.lets(0, 34, 0), 1);
        due.is("no well", x.lets(0, 34, 1), 9);
        x.drill(0, 0, 1);
        due.is("in its cell", x.lets(0, 0, 1), 0);
        due.is("3 away", x.lets(0, 8, 1), 3);
        due.is("4 away", x.lets(0, 14, 1), 4);
        due.is("does not hold", x.lets(1, 0, 0), OilTown.NONE);
        due.is("does not hold", x.lets(0, 35, 1), OilTown.NONE);
        int[][] bad = {{-1, 0, 0}, {2, 0, 0}, {0, -1, 0}, {0, 36, 0}, {0, 0, -1}, {0, 0, 2}, {MAX, 0, 0}, {0, 0, MIN}};
        for (int[] b : bad) {
            due.is("lets(" + java.util.Arrays.toString(b) + ")", x.lets(b[0], b[1], b[2]), OilTown.BAD);
        }
    }

    private static void letsUnderTheOtherRule() {
        OilTown x = Due.withPersons(1);
        x.field(4, 1);
        for (int c = 0; c < 3; c++) {
            x.lay(c, 0);
        }
        x.owner(0, 0);
        x.drill(0, 0, 1);
        Due.orders(x, "near 2; apart 2; from 1 near 0; from 2 except 0;");
        due.is("apart 1 does, near holds", x.lets(0, 1, 1), 1);
        due.is("its own rule is not asked, apart fails", x.lets(0, 1, 0), OilTown.NONE);
        due.is("near fails", x.lets(0, 2, 1), OilTown.NONE);
        due.is("near 1 does", x.lets(0, 2, 0), 1);
        for (int i = 0; i < 4; i++) {
            x.hour();
        }
        due.is("in shift 1 near is 0", x.lets(0, 2, 1), 2);
        for (int i = 0; i < 4; i++) {
            x.hour();
        }
        due.is("excepted", x.lets(0, 2, 1), 9);
        Due.orders(x, "except 0; near 9; apart 9;");
        due.is("excepted by the first line", x.lets(0, 2, 1), 9);
        due.is("excepted", x.lets(0, 1, 0), 9);
    }
}
