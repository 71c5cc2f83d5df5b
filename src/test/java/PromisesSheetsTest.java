/** Promises 34 to 37: sheet, write, scan, count. */
public final class PromisesSheetsTest {
    private static final int MIN = Integer.MIN_VALUE, MAX = Integer.MAX_VALUE;
    private static final Due due = new Due("PromisesSheetsTest");

    public static void main(String[] args) {
        sheet();
        write();
        writeLowestBits();
        scan();
        scanFaults();
        scanFirstMet();
        count();
        due.end();
    }

    private static void sheet() {
        OilTown x = new OilTown();
        int[][] bad = {{-1, 0, 1}, {4, 0, 1}, {0, -1, 1}, {0, 3, 1}, {0, 0, 73}, {0, 0, MAX}, {-1, 0, -1}, {0, 3, -1}};
        for (int[] b : bad) {
            due.is("sheet(" + java.util.Arrays.toString(b) + ")", x.sheet(b[0], b[1], b[2]), OilTown.BAD);
        }
        due.is("below 0", x.sheet(0, 0, -1), -14);
        due.is("below 0", x.sheet(3, 2, MIN), -14);
        due.is("nothing still", x.count(13), OilTown.NONE);
        for (int lane = 0; lane < 3; lane++) {
            due.is("sheet(0, " + lane + ", 72)", x.sheet(0, lane, 72), 1);
            due.is("count(13)", x.count(13), 72);
        }
        due.is("refused", x.sheet(0, 0, -1), -14);
        due.is("as it was", x.count(13), 72);
        due.is("sheet(0, 1, 0)", x.sheet(0, 1, 0), 1);
        due.is("no cells, but not nothing", x.count(13), 0);
        due.is("no cells, but not nothing", x.write(0, 0, 1), -12);

        x.field(1, 1);
        x.sheet(1, 2, 1);
        x.write(1, 0, 7);
        due.is("scan", x.scan(1, 2, 0), 7);
        x.sheet(1, 2, 1);
        due.is("a new row of 0", x.scan(1, 2, 0), 0);
    }

    private static void write() {
        OilTown x = new OilTown();
        due.is("nothing", x.write(3, 0, 1), -11);
        due.is("nothing", x.write(3, -1, 1), -11);
        due.is("no such", x.write(4, 0, 1), OilTown.BAD);
        due.is("no such", x.write(-1, 0, 1), OilTown.BAD);
        x.sheet(3, 0, 3);
        for (int i : new int[] {-1, 3, MIN, MAX}) {
            due.is("write(3, " + i + ", 1)", x.write(3, i, 1), -12);
        }
        due.is("write(3, 0, 1)", x.write(3, 0, 1), 1);
        due.is("write(3, 2, 1)", x.write(3, 2, 1), 1);
    }

    /** What a cell of a lane becomes, seen by what scan says of it. */
    private static void writes(int lane, int v, int want) {
        OilTown x = new OilTown();
        x.field(1, 1);
        x.sheet(0, lane, 1);
        due.is("write", x.write(0, 0, v), 1);
        due.is("scan of " + v + " in lane " + lane, x.scan(0, lane, 0), want);
    }

    private static void writeLowestBits() {
        writes(0, 127, 127);
        writes(0, 128, -100);
        writes(0, 255, -100);
        writes(0, 256 + 7, 7);
        writes(0, -256 + 9, 9);
        writes(1, 999, 999);
        writes(1, 1000, -100);
        writes(1, 65536 + 42, 42);
        writes(1, 32768, -100);
        writes(2, 999, 999);
        writes(2, 65536 + 42, -100);
        writes(2, -1, -100);
        writes(2, MIN, -100);
        writes(2, MAX, -100);
    }

    private static void scan() {
        OilTown x = new OilTown();
        x.field(2, 1);
        x.lay(0, 3);
        x.cell(0, 1, 2, 3, 4);
        x.lay(0, 5);
        x.sheet(2, 2, 4);
        for (int i = 0; i < 4; i++) {
            x.write(2, i, 100 * i + 1);
        }
        due.is("from 0 on", x.scan(2, 2, 0), 102);
        due.is("of its lot now", x.cellOf(0, 15), 1);
        due.is("what was there went", x.cellOf(0, 13), 0);
        due.is("of no lot", x.cellOf(1, 18), 101);
        due.is("sand stays", x.cellOf(0, 0), 1);
        due.is("gas stays", x.cellOf(0, 1), 2);
        due.is("water stays", x.cellOf(0, 2), 3);
        due.is("from 2 on", x.scan(2, 2, 2), 502);
        due.is("cell 0", x.cellOf(0, 3), 201);
        due.is("cell 1", x.cellOf(1, 3), 301);
        due.is("count(1)", x.count(1), 502);
        x.sheet(2, 0, 2);
        due.is("a sum of 0", x.scan(2, 0, 0), 0);
        due.is("what was there went", x.count(1), 0);
        x.field(6, 6);
        x.sheet(2, 1, 72);
        for (int i = 35; i < 72; i++) {
            x.write(2, i, i);
        }
        due.is("the largest field, the last cells", x.scan(2, 1, 36), 36 * (36 + 71) / 2);
        due.is("its last", x.cellOf(35, 18), 71);
        due.is("from one cell ahead", x.scan(2, 1, 35), 36 * (35 + 70) / 2);
        due.is("from one cell behind", x.scan(2, 1, 37), -12);
    }

    private static void scanFaults() {
        OilTown x = new OilTown();
        x.field(2, 1);
        x.cell(0, 5, 0, 0, 50);
        int[][] bad = {{-1, 0}, {4, 0}, {0, -1}, {0, 3}, {MIN, 0}, {0, MAX}};
        for (int[] b : bad) {
            due.is("scan(" + b[0] + ", " + b[1] + ", 0)", x.scan(b[0], b[1], 0), OilTown.BAD);
        }
        due.is("nothing", x.scan(0, 0, 0), -11);
        x.sheet(0, 0, 2);
        due.is("another lane", x.scan(0, 1, 0), -13);
        due.is("another lane, ahead of the index", x.scan(0, 2, 99), -13);
        for (int f : new int[] {1, 2, 99, -1, -2, MIN, MAX}) {
            due.is("scan(0, 0, " + f + ")", x.scan(0, 0, f), -12);
        }
        x.sheet(0, 0, 0);
        due.is("no cells", x.scan(0, 0, 0), -12);
        due.is("nothing changed", x.cellOf(0, 3), 50);
    }

    private static void scanFirstMet() {
        OilTown x = new OilTown();
        x.field(2, 2);
        x.sheet(0, 1, 3);
        due.is("cell 3 is none", x.scan(0, 1, 0), -12);
        x.write(0, 2, 1000);
        due.is("cell 2 is met first", x.scan(0, 1, 0), -102);
        due.is("counted from f on", x.scan(0, 1, 1), -101);
        x.write(0, 1, -7);
        due.is("cell 1 is met first", x.scan(0, 1, 0), -101);
        due.is("nothing changed", x.count(1), 0);
        due.is("nothing changed", x.cellOf(0, 3), 0);
    }

    private static void count() {
        OilTown x = Due.withPersons(2);
        x.field(4, 2);
        x.lay(0, 0);
        x.lay(7, 0);
        x.owner(0, 0);
        x.cell(0, 0, 3, 0, 200);
        x.cell(7, 0, 4, 8, 30);
        x.lease(1, 1, 5, 5);
        x.lease(1, 1, 5, 5);
        x.drill(0, 0, 30);
        Due.orders(x, "each 10; near 1; shut;");
        x.voids(2);
        x.hour();
        x.hour();
        x.sell(0, 25);
        x.keep();
        Due.feed(x, "near ");
        x.sheet(0, 2, 11);
        int[] want = {8, 170, 8, 2, 2, 1, 3, 2, 35, 25, 50, 1, 5, 11};
        for (int what = 0; what < want.length; what++) {
            due.is("count(" + what + ")", x.count(what), want[what]);
        }
        for (int what : new int[] {-1, 14, MIN, MAX}) {
            due.is("count(" + what + ")", x.count(what), OilTown.BAD);
        }
    }
}
