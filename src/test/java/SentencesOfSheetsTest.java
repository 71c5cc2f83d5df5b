/** Part 2 of the document, FIELDS and SHEETS: each sentence at its edges. */
public final class SentencesOfSheetsTest {
    private static final int NONE = OilTown.NONE, BAD = OilTown.BAD;
    private static final Due due = new Due("SentencesOfSheetsTest");

    public static void main(String[] args) {
        fieldsAsTheyAreWhenKept();
        fieldsKeepEveryWell();
        fieldsKeepEveryOwner();
        fieldsDoNotKeepLinesAndSpots();
        fieldsAreNumberedAsTheyAreKept();
        fieldsOfOtherSizes();
        fieldsKeepSalesAndHours();
        sheetsAreNewRows();
        sheetsAreFour();
        sheetsOfUpToSeventyTwo();
        bytesWrapAround();
        shortsWrapAround();
        intsDoNotWrapAround();
        scanFromACellOn();
        scanWrapsAroundNowhere();
        scanOfWhatMayBeTold();
        scanTellsTheFirstMet();
        scanRefusedChangesNothing();
        scanIsOfTheirLots();
        countsOfAll();
        due.end();
    }

    /** "as they are when one is kept": all of it, and nothing that came later. */
    private static void fieldsAsTheyAreWhenKept() {
        String before = Picture.of(SentencesOfSheetsTest::keptBusy);
        String behind = Picture.of(() -> {
            OilTown x = keptBusy();
            x.field(6, 6);
            x.stand(1);
            return x;
        });
        due.holds("all becomes as it was, behind field", before.equals(behind));
        behind = Picture.of(() -> {
            OilTown x = keptBusy();
            Towns.hours(x, 30);
            x.will(0, 1);
            x.open(1, true);
            x.owner(0, 2);
            x.lay(11, 5);
            x.lease(0, 0, 1, 1);
            x.drill(2, 9, 9);
            x.sell(0, 1);
            x.cell(5, 1, 1, 1, 1);
            x.stand(1);
            return x;
        });
        due.holds("all becomes as it was, behind what was done", before.equals(behind));
        behind = Picture.of(() -> {
            OilTown x = keptBusy();
            x.stand(0);
            x.hour();
            x.stand(1);
            return x;
        });
        due.holds("all becomes as it was, behind another that stood", before.equals(behind));
    }

    private static OilTown keptBusy() {
        OilTown x = Towns.busy();
        x.keep();
        return x;
    }

    private static void fieldsKeepEveryWell() {
        OilTown x = Towns.oneCell(1, 999, 0);
        for (int k = 0; k < 10; k++) {
            x.drill(0, 0, k);
            x.open(k, k % 3 != 0);
        }
        x.keep();
        for (int k = 0; k < 10; k++) {
            x.open(k, k % 3 == 0);
            x.will(k, 60 - k);
        }
        x.stand(0);
        for (int k = 0; k < 10; k++) {
            due.is("open: WELL " + k, x.wellOf(k, 3), k % 3 != 0 ? 1 : 0);
            due.is("WILL of WELL " + k, x.wellOf(k, 2), k);
        }
    }

    private static void fieldsKeepEveryOwner() {
        OilTown x = Due.withPersons(6);
        for (int l = 0; l < 8; l++) {
            x.owner(l, l < 6 ? l : NONE);
        }
        x.keep();
        for (int l = 0; l < 8; l++) {
            x.owner(l, 7 - l < 6 ? 7 - l : NONE);
        }
        x.stand(0);
        for (int l = 0; l < 8; l++) {
            due.is("OWNER of LOT " + l, x.holds(l), l < 6 ? l : NONE);
        }
    }

    /** "(not LINES, SPOTS)"; PERSONS, SHEETS, THE TAPE and FIELDS are not told to be kept either. */
    private static void fieldsDoNotKeepLinesAndSpots() {
        OilTown x = Due.withPersons(1);
        x.keep();
        Due.orders(x, "shut; each 5;");
        x.voids(0);
        x.spot(0, 7);
        x.person();
        x.sheet(0, 2, 3);
        Due.feed(x, "near");
        x.keep();
        x.stand(0);
        due.is("LINES", x.count(6), 2);
        due.is("VOID", x.line(0, 3), 1);
        due.is("SPOTS", x.spot(0, 1), 7);
        due.is("PERSONS", x.count(3), 2);
        due.is("SHEETS", x.count(13), 3);
        due.is("THE TAPE", x.count(12), 4);
        due.is("FIELDS", x.count(11), 2);
    }

    private static void fieldsAreNumberedAsTheyAreKept() {
        OilTown x = new OilTown();
        for (int k = 0; k < 3; k++) {
            due.is("stand ahead of keep", x.stand(k), BAD);
            x.field(k + 1, 2);
            due.is("keep", x.keep(), k);
        }
        for (int k : new int[] {2, 0, 1, 1, 2}) {
            due.is("stand(" + k + ")", x.stand(k), 1);
            due.is("its CELLS", x.count(0), 2 * (k + 1));
        }
        due.is("stand(3)", x.stand(3), BAD);
        due.is("stand(-1)", x.stand(-1), BAD);
        due.is("as it was", x.count(0), 6);
    }

    private static void fieldsOfOtherSizes() {
        OilTown x = new OilTown();
        x.field(2, 6);
        x.cell(11, 8, 0, 0, 100);
        x.cell(10, 8, 0, 0, 0);
        x.cell(9, 8, 0, 0, 0);
        x.keep();
        x.field(6, 2);
        x.stand(0);
        x.hour();
        due.is("left of it", x.cellOf(10, 3), 20);
        due.is("above it", x.cellOf(9, 3), 20);
        due.is("it", x.cellOf(11, 3), 60);
        due.is("cellOf(12, 0)", x.cellOf(12, 0), BAD);
    }

    private static void fieldsKeepSalesAndHours() {
        OilTown x = Towns.oneCell(1, 999, 0);
        x.drill(0, 0, 60);
        Towns.hours(x, 4);
        x.sell(0, 100);
        Towns.hours(x, 4);
        x.keep();
        x.sell(0, 50);
        Towns.hours(x, 4);
        due.is("SHIFT 3", x.price(3), 90);
        x.stand(0);
        due.is("THE HOUR", x.count(7), 8);
        due.is("SHIFT 3 is to come", x.price(3), BAD);
        due.is("SHIFT 2", x.price(2), 80);
        due.is("TANK", x.told(0, 0), 380);
        due.is("sold", x.told(0, 1), 100);
        due.is("paid", x.told(0, 2), 10000);
        Towns.hours(x, 4);
        due.is("nothing was sold in SHIFT 2", x.price(3), 100);
    }

    /** "A SHEET is a new row of CELLS 0". */
    private static void sheetsAreNewRows() {
        OilTown x = new OilTown();
        x.field(1, 1);
        x.sheet(0, 2, 72);
        for (int i = 0; i < 72; i++) {
            due.is("of 0", x.scan(0, 2, i), 0);
            x.write(0, i, i + 1);
        }
        due.is("written", x.scan(0, 2, 71), 72);
        due.is("refused", x.sheet(0, 2, -1), -14);
        due.is("refused", x.sheet(0, 2, 73), BAD);
        due.is("as it was", x.scan(0, 2, 71), 72);
        due.is("anew", x.sheet(0, 2, 72), 1);
        for (int i = 0; i < 72; i++) {
            due.is("of 0 again", x.scan(0, 2, i), 0);
        }
        x.write(0, 0, 5);
        x.sheet(0, 1, 1);
        due.is("of another lane", x.scan(0, 1, 0), 0);
        due.is("the lane that it was", x.scan(0, 2, 0), -13);
    }

    /** "SHEETS 0 to 3 are rows of BYTES (lane 0), SHORTS (1), INTS (2)". */
    private static void sheetsAreFour() {
        OilTown x = new OilTown();
        x.field(1, 1);
        int[] lanes = {2, 0, 1, 2};
        for (int k = 0; k < 4; k++) {
            due.is("sheet", x.sheet(k, lanes[k], k + 1), 1);
            due.is("its last CELL", x.write(k, k, 10 + k), 1);
            due.is("one more", x.write(k, k + 1, 1), -12);
        }
        for (int k = 0; k < 4; k++) {
            for (int lane = 0; lane < 3; lane++) {
                due.is("scan(" + k + ", " + lane + ")", x.scan(k, lane, k), lane == lanes[k] ? 10 + k : -13);
            }
        }
        due.is("count(13) is of SHEET 0", x.count(13), 1);
    }

    private static void sheetsOfUpToSeventyTwo() {
        OilTown x = new OilTown();
        x.field(6, 6);
        for (int n : new int[] {0, 1, 35, 36, 71, 72}) {
            due.is("of " + n, x.sheet(0, 0, n), 1);
            due.is("count(13)", x.count(13), n);
            due.is("36 CELLS of " + n, x.scan(0, 0, 0), n >= 36 ? 0 : -12);
            due.is("the last 36 of " + n, x.scan(0, 0, n - 36), n >= 36 ? 0 : -12);
            due.is("from one CELL further on", x.scan(0, 0, n - 35), -12);
        }
    }

    private static void written(int lane, int v, int want) {
        OilTown x = new OilTown();
        x.field(1, 1);
        x.sheet(0, lane, 1);
        due.is("write of " + v, x.write(0, 0, v), 1);
        due.is(v + " in lane " + lane, x.scan(0, lane, 0), want);
    }

    /** "CELL i of a SHEET becomes v (its lowest bits)". */
    private static void bytesWrapAround() {
        written(0, 0, 0);
        written(0, 127, 127);
        written(0, 128, -100);
        written(0, 255, -100);
        written(0, 256, 0);
        written(0, 256 + 127, 127);
        written(0, 256 + 128, -100);
        written(0, 999, -100);
        written(0, -1, -100);
        written(0, -128, -100);
        written(0, -129, 127);
        written(0, -256, 0);
        written(0, Integer.MIN_VALUE, 0);
        written(0, Integer.MAX_VALUE, -100);
    }

    private static void shortsWrapAround() {
        written(1, 999, 999);
        written(1, 1000, -100);
        written(1, 32767, -100);
        written(1, 32768, -100);
        written(1, 65535, -100);
        written(1, 65536, 0);
        written(1, 65536 + 999, 999);
        written(1, 65536 + 1000, -100);
        written(1, -65536, 0);
        written(1, -65536 + 7, 7);
        written(1, -1, -100);
        written(1, Integer.MIN_VALUE, 0);
        written(1, Integer.MAX_VALUE, -100);
    }

    private static void intsDoNotWrapAround() {
        written(2, 999, 999);
        written(2, 1000, -100);
        written(2, 65536, -100);
        written(2, 256, 256);
        written(2, -1, -100);
        written(2, Integer.MIN_VALUE, -100);
        written(2, Integer.MAX_VALUE, -100);
    }

    /** "from CELL f on". */
    private static void scanFromACellOn() {
        OilTown x = new OilTown();
        x.field(3, 2);
        x.sheet(1, 1, 8);
        for (int i = 0; i < 8; i++) {
            x.write(1, i, 1 << i);
        }
        int[] sums = {63, 126, 252};
        for (int f = 0; f < 3; f++) {
            due.is("from " + f, x.scan(1, 1, f), sums[f]);
            due.is("its first CELL", x.cellOf(0, 3), 1 << f);
            due.is("its last CELL", x.cellOf(5, 3), 32 << f);
        }
        due.is("from 3: CELL 8 is none", x.scan(1, 1, 3), -12);
        due.is("from 7", x.scan(1, 1, 7), -12);
        due.is("from 8", x.scan(1, 1, 8), -12);
        due.is("from -1", x.scan(1, 1, -1), -12);
        due.is("nothing changed", x.cellOf(5, 3), 128);
    }

    /** f and c together may be more than an int tells. */
    private static void scanWrapsAroundNowhere() {
        OilTown x = new OilTown();
        x.field(6, 6);
        x.sheet(1, 0, 72);
        for (int back = 0; back < 40; back++) {
            due.is("from MAX less " + back, x.scan(1, 0, Integer.MAX_VALUE - back), -12);
            due.is("from MIN and " + back, x.scan(1, 0, Integer.MIN_VALUE + back), -12);
            due.is("from " + (-1 - back), x.scan(1, 0, -1 - back), -12);
        }
    }

    /** "CELL f + c is not 0 to 999". */
    private static void scanOfWhatMayBeTold() {
        OilTown x = new OilTown();
        x.field(2, 2);
        x.sheet(0, 2, 5);
        for (int c = 0; c < 4; c++) {
            x.write(0, c + 1, 999);
            due.is("999 in CELL " + c, x.scan(0, 2, 1), 999);
            x.write(0, c + 1, 1000);
            due.is("1000 in CELL " + c, x.scan(0, 2, 1), -100 - c);
            x.write(0, c + 1, -1);
            due.is("-1 in CELL " + c, x.scan(0, 2, 1), -100 - c);
            x.write(0, c + 1, 0);
            due.is("0 in CELL " + c, x.scan(0, 2, 1), 0);
        }
        x.field(6, 6);
        x.sheet(0, 1, 36);
        for (int i = 0; i < 36; i++) {
            x.write(0, i, 999);
        }
        due.is("all of 999", x.scan(0, 1, 0), 35964);
        due.is("count(1)", x.count(1), 35964);
        x.write(0, 35, 1000);
        due.is("the last is too many", x.scan(0, 1, 0), -135);
        due.is("count(1)", x.count(1), 35964);
    }

    /** "CELL by CELL INDEX; -100 less c ..; the first met". */
    private static void scanTellsTheFirstMet() {
        OilTown x = new OilTown();
        x.field(3, 1);
        x.sheet(0, 2, 3);
        x.write(0, 2, 1000);
        due.is("CELL 2", x.scan(0, 2, 0), -102);
        due.is("CELL 1, ahead of INDEX of 2", x.scan(0, 2, 1), -101);
        due.is("CELL 0, ahead of INDEX of 1", x.scan(0, 2, 2), -100);
        due.is("INDEX of 0", x.scan(0, 2, 3), -12);
        x.write(0, 0, -1);
        due.is("CELL 0, ahead of 2", x.scan(0, 2, 0), -100);
        x.write(0, 2, 0);
        due.is("INDEX of 2", x.scan(0, 2, 1), -12);
    }

    /** "then nothing changed". */
    private static void scanRefusedChangesNothing() {
        Edges edges = new Edges(due);
        Towns.Maker made = SentencesOfSheetsTest::sheetWithFaults;
        edges.refused("scan to a CELL that is too many", made, -111, (x, v) -> x.scan(0, 2, v), 0);
        edges.refused("scan to a CELL that is none", made, -12, (x, v) -> x.scan(0, 2, v), 12);
        edges.refused("scan of another lane", made, -13, (x, v) -> x.scan(0, v, 0), 0, 1);
        edges.refused("scan of nothing", made, -11, (x, v) -> x.scan(2, v, 0), 0, 1, 2);
    }

    private static OilTown sheetWithFaults() {
        OilTown x = Towns.busy();
        x.sheet(0, 2, 20);
        for (int i = 0; i < 20; i++) {
            x.write(0, i, i == 11 ? 1000 : 3);
        }
        return x;
    }

    /** "(what was there goes; it is of their LOTS)". */
    private static void scanIsOfTheirLots() {
        OilTown x = new OilTown();
        x.field(3, 1);
        x.lay(0, 0);
        x.lay(1, 7);
        for (int c = 0; c < 3; c++) {
            x.cell(c, 0, 1, 2, 50);
        }
        x.lay(1, 3);
        x.sheet(3, 0, 3);
        x.write(3, 0, 1);
        x.write(3, 1, 2);
        x.write(3, 2, 0);
        due.is("scan", x.scan(3, 0, 0), 3);
        due.is("of LOT 0", x.cellOf(0, 10), 1);
        due.is("of LOT 3", x.cellOf(1, 13), 2);
        due.is("none of LOT 7", x.cellOf(1, 17), 0);
        due.is("none of no LOT", x.cellOf(2, 18), 0);
        due.is("none", x.cellOf(2, 3), 0);
        due.is("GAS stays", x.cellOf(1, 1), 1);
        due.is("WATER stays", x.cellOf(1, 2), 2);
        due.is("SAND stays", x.cellOf(1, 0), 0);
        due.is("PUSH", x.cellOf(1, 5), 5);
    }

    private static void countsOfAll() {
        OilTown x = Due.withPersons(6);
        x.field(6, 6);
        for (int c = 0; c < 36; c++) {
            x.cell(c, 0, 999, 998, 999);
        }
        due.is("CELLS", x.count(0), 36);
        due.is("OIL", x.count(1), 35964);
        due.is("WATER", x.count(2), 35928);
        due.is("PERSONS", x.count(3), 6);
        due.is("count(-1)", x.count(-1), BAD);
        due.is("count(14)", x.count(14), BAD);
        due.is("SHEET 0 has nothing", x.count(13), NONE);
        x.sheet(1, 0, 5);
        due.is("though SHEET 1 has", x.count(13), NONE);
    }
}
