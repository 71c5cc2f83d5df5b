/** Promises 1 to 6: a new object, field, cell, lay, cellOf, hour. */
public final class PromisesFieldTest {
    private static final int MIN = Integer.MIN_VALUE, MAX = Integer.MAX_VALUE;
    private static final Due due = new Due("PromisesFieldTest");

    public static void main(String[] args) {
        newObject();
        fieldBounds();
        fieldClears();
        cellBounds();
        cellTellsOil();
        lay();
        cellOf();
        hourFlowsAtOnce();
        hourInTheLargestField();
        hourTakesLessSand();
        hourSharesWants();
        hourSplitsLiquid();
        hourTakesByLots();
        hourByPush();
        hourDraws();
        hourDrawsInOrder();
        hourEnds();
        due.end();
    }

    private static void cells(OilTown x, String when, int what, int... want) {
        for (int c = 0; c < want.length; c++) {
            due.is(when + ": cellOf(" + c + ", " + what + ")", x.cellOf(c, what), want[c]);
        }
    }

    private static void newObject() {
        OilTown x = new OilTown();
        due.is("count(0)", x.count(0), 9);
        for (int what = 1; what <= 12; what++) {
            due.is("new count(" + what + ")", x.count(what), 0);
        }
        due.is("new count(13)", x.count(13), OilTown.NONE);
        for (int c = 0; c < 9; c++) {
            int[] first = {5, 0, 0, 0, OilTown.NONE, 0};
            for (int what = 0; what < 6; what++) {
                due.is("new cellOf(" + c + ", " + what + ")", x.cellOf(c, what), first[what]);
            }
        }
        for (int l = 0; l < 8; l++) {
            due.is("new holds(" + l + ")", x.holds(l), OilTown.NONE);
        }
        due.is("new fault()", x.fault(), 0);
        due.is("new price(0)", x.price(0), 100);
        due.is("new told(0, 0)", x.told(0, 0), OilTown.BAD);
        due.is("new leaseOf(0, 0)", x.leaseOf(0, 0), OilTown.BAD);
        due.is("new wellOf(0, 0)", x.wellOf(0, 0), OilTown.BAD);
        due.is("new line(0, 0)", x.line(0, 0), OilTown.BAD);
        due.is("new stand(0)", x.stand(0), OilTown.BAD);
        for (int k = 0; k < 4; k++) {
            due.is("new write(" + k + ", 0, 0)", x.write(k, 0, 0), -11);
        }
    }

    private static void fieldBounds() {
        OilTown x = new OilTown();
        int[][] bad = {{0, 1}, {1, 0}, {7, 1}, {1, 7}, {-1, 3}, {3, -1}, {MIN, 1}, {1, MAX}};
        for (int[] b : bad) {
            due.is("field(" + b[0] + ", " + b[1] + ")", x.field(b[0], b[1]), OilTown.BAD);
        }
        due.is("count(0) as it was", x.count(0), 9);
        for (int w = 1; w <= 6; w++) {
            for (int h = 1; h <= 6; h++) {
                due.is("field(" + w + ", " + h + ")", x.field(w, h), 1);
                due.is("count(0)", x.count(0), w * h);
                due.is("its last cell", x.cellOf(w * h - 1, 0), 5);
                due.is("one more", x.cellOf(w * h, 0), OilTown.BAD);
            }
        }
    }

    private static void fieldClears() {
        OilTown x = Due.withPersons(2);
        x.lay(0, 0);
        x.owner(0, 1);
        x.owner(3, 1);
        x.lease(0, 0, 9, 9);
        x.cell(0, 9, 8, 7, 100);
        x.spot(1, 4);
        Due.orders(x, "each 1;");
        x.drill(0, 0, 30);
        x.hour();
        x.sell(0, 20);
        x.keep();
        x.sheet(0, 0, 6);
        Due.feed(x, "near");
        due.is("field(3, 3)", x.field(3, 3), 1);
        int[] left = {9, 0, 0, 2, 0, 0, 1, 0, 0, 0, 0, 1, 4, 6};
        for (int what = 0; what < left.length; what++) {
            due.is("behind field: count(" + what + ")", x.count(what), left[what]);
        }
        cells(x, "behind field", 0, 5, 5, 5, 5, 5, 5, 5, 5, 5);
        cells(x, "behind field", 1, 0, 0, 0);
        cells(x, "behind field", 4, OilTown.NONE, OilTown.NONE);
        cells(x, "behind field", 10, 0, 0);
        due.is("no owner", x.holds(0), OilTown.NONE);
        due.is("no owner", x.owner(3, 0), OilTown.NONE);
        for (int what : new int[] {0, 1, 2, 3, 4, 5, 6, 10}) {
            due.is("behind field: told(0, " + what + ")", x.told(0, what), 0);
        }
        due.is("the spot stays", x.spot(1, 0), 4);
        x.lay(0, 3);
        due.is("drill", x.drill(0, 0, 1), 0);
        due.is("nothing drawn by a new well", x.drew(0, 0, 0), 0);
        for (int what : new int[] {4, 5, 6, 10, 11, 18}) {
            due.is("nothing drawn by a new well: " + what, x.wellOf(0, what), 0);
        }
        due.is("price(0)", x.price(0), 100);
        due.is("price(1)", x.price(1), OilTown.BAD);
        for (int i = 0; i < 4; i++) {
            x.hour();
        }
        due.is("nothing was sold in shift 0", x.price(1), 100);
    }

    private static void cellBounds() {
        OilTown x = new OilTown();
        due.is("cell", x.cell(8, 9, 999, 999, 999), 1);
        int[][] bad = {
            {-1, 5, 0, 0, 0}, {9, 5, 0, 0, 0}, {8, -1, 0, 0, 0}, {8, 10, 0, 0, 0}, {8, 5, -1, 0, 0},
            {8, 5, 1000, 0, 0}, {8, 5, 0, -1, 0}, {8, 5, 0, 1000, 0}, {8, 5, 0, 0, -1}, {8, 5, 0, 0, 1000},
            {MIN, 0, 0, 0, 0}, {MAX, 0, 0, 0, 0}
        };
        for (int[] b : bad) {
            due.is("cell(" + java.util.Arrays.toString(b) + ")", x.cell(b[0], b[1], b[2], b[3], b[4]), OilTown.BAD);
        }
        int[] as = {9, 999, 999, 999, OilTown.NONE, 2997};
        for (int what = 0; what < 6; what++) {
            due.is("cellOf(8, " + what + ")", x.cellOf(8, what), as[what]);
        }
        due.is("cell of naughts", x.cell(8, 0, 0, 0, 0), 1);
        due.is("cellOf(8, 5)", x.cellOf(8, 5), 0);
    }

    private static void cellTellsOil() {
        OilTown x = new OilTown();
        x.cell(0, 5, 0, 0, 10);
        due.is("of place 8", x.cellOf(0, 18), 10);
        x.lay(0, 1);
        due.is("still of place 8", x.cellOf(0, 18), 10);
        x.cell(0, 5, 0, 0, 20);
        due.is("of lot 1", x.cellOf(0, 11), 20);
        due.is("what was there went", x.cellOf(0, 18), 0);
        x.lay(0, 7);
        x.cell(0, 5, 0, 0, 3);
        due.is("of lot 7", x.cellOf(0, 17), 3);
        x.lay(0, 0);
        x.lay(1, 0);
        x.cell(0, 5, 0, 0, 4);
        x.cell(1, 5, 0, 0, 6);
        x.lay(0, 7);
        x.cell(0, 5, 0, 0, 3);
        due.is("of lot 0", x.cellOf(0, 10), 0);
        due.is("of lot 0, beside it", x.cellOf(1, 10), 6);
        due.is("what was there went", x.cellOf(0, 11), 0);
        due.is("all", x.cellOf(0, 3), 3);
    }

    private static void lay() {
        OilTown x = new OilTown();
        due.is("lay(4, 7)", x.lay(4, 7), OilTown.NONE);
        for (int l : new int[] {8, -1, -2, -3, -5, MIN, MAX}) {
            due.is("lay(4, " + l + ")", x.lay(4, l), OilTown.BAD);
        }
        due.is("lay(-1, 0)", x.lay(-1, 0), OilTown.BAD);
        due.is("lay(9, 0)", x.lay(9, 0), OilTown.BAD);
        due.is("lay(4, 0)", x.lay(4, 0), 7);
        due.is("lay(4, NONE)", x.lay(4, OilTown.NONE), 0);
        due.is("cellOf(4, 4)", x.cellOf(4, 4), OilTown.NONE);
    }

    private static void cellOf() {
        OilTown x = new OilTown();
        x.lay(2, 6);
        x.cell(2, 1, 2, 3, 4);
        int[] want = {1, 2, 3, 4, 6, 9, -1, -1, -1, -1, 0, 0, 0, 0, 0, 0, 4, 0, 0, -1};
        for (int what = 0; what < want.length; what++) {
            due.is("cellOf(2, " + what + ")", x.cellOf(2, what), want[what]);
        }
        for (int bad : new int[] {-1, 20, 28, 100, MIN, MAX}) {
            due.is("cellOf(2, " + bad + ")", x.cellOf(2, bad), OilTown.BAD);
        }
        for (int c : new int[] {-1, 9, MIN, MAX}) {
            due.is("cellOf(" + c + ", 0)", x.cellOf(c, 0), OilTown.BAD);
        }
    }

    private static void hourFlowsAtOnce() {
        OilTown x = new OilTown();
        x.field(3, 1);
        for (int c = 0; c < 3; c++) {
            x.cell(c, 8, 0, 0, c == 0 ? 100 : 0);
        }
        due.is("hour()", x.hour(), 0);
        cells(x, "an hour", 3, 80, 20, 0);
        x.hour();
        cells(x, "two hours", 3, 68, 28, 4);
        due.is("count(7)", x.count(7), 2);

        x.field(1, 3);
        for (int c = 0; c < 3; c++) {
            x.cell(c, 8, 0, c == 2 ? 100 : 0, 0);
        }
        x.hour();
        x.hour();
        cells(x, "water, upwards", 2, 4, 28, 68);

        x.field(2, 2);
        for (int c = 0; c < 4; c++) {
            x.cell(c, 8, 0, 0, c == 1 ? 100 : 0);
        }
        x.hour();
        cells(x, "not over corners, not round the edge", 3, 20, 60, 0, 20);
    }

    private static void hourInTheLargestField() {
        OilTown x = new OilTown();
        x.field(6, 6);
        x.cell(35, 8, 0, 0, 100);
        x.cell(34, 8, 0, 0, 0);
        x.cell(29, 8, 0, 100, 0);
        x.cell(28, 0, 0, 0, 0);
        x.cell(23, 0, 0, 0, 0);
        x.hour();
        due.is("the last cell", x.cellOf(35, 3), 80);
        due.is("left of it", x.cellOf(34, 3), 20);
        due.is("above it", x.cellOf(29, 5), 100);
        x.hour();
        due.is("the last cell: 12 left, 4 from above", x.cellOf(35, 5), 72);
        due.is("water from above", x.cellOf(35, 2), 4);
        due.is("left of it", x.cellOf(34, 3), 30);
        due.is("and on, by sand 5", x.cellOf(33, 3), 2);
    }

    private static void hourTakesLessSand() {
        OilTown x = new OilTown();
        x.field(2, 1);
        x.cell(0, 9, 0, 0, 100);
        x.cell(1, 2, 0, 0, 0);
        x.hour();
        cells(x, "less sand there", 3, 95, 5);
        x.cell(0, 2, 0, 0, 100);
        x.cell(1, 9, 0, 0, 0);
        x.hour();
        cells(x, "less sand here", 3, 95, 5);
        x.cell(0, 0, 0, 0, 100);
        x.cell(1, 9, 0, 0, 0);
        x.hour();
        cells(x, "no sand", 3, 100, 0);
        x.cell(0, 9, 0, 0, 4);
        x.cell(1, 9, 0, 0, 0);
        x.hour();
        cells(x, "36 by 40 is 0", 3, 4, 0);
        x.cell(0, 9, 0, 0, 5);
        x.hour();
        cells(x, "45 by 40 is 1", 3, 4, 1);
    }

    private static void hourSharesWants() {
        OilTown x = new OilTown();
        for (int c = 0; c < 9; c++) {
            x.cell(c, 9, c == 4 ? 999 : 0, 0, c == 4 ? 10 : 0);
        }
        x.hour();
        // 1009 * 9 / 40 = 227 each, 908 in all, of 10: 2 each
        cells(x, "wants above what is there", 3, 0, 2, 0, 2, 2, 2, 0, 2, 0);

        x.field(2, 1);
        x.cell(0, 9, 999, 1, 3);
        x.cell(1, 9, 0, 0, 0);
        x.hour();
        cells(x, "all goes", 3, 0, 3);
        cells(x, "all goes", 2, 0, 1);
        x.cell(0, 9, 999, 0, 0);
        x.cell(1, 9, 0, 0, 0);
        x.hour();
        cells(x, "gas alone does not flow", 1, 999, 0);
        cells(x, "nothing to go", 5, 999, 0);
    }

    private static void hourSplitsLiquid() {
        OilTown x = new OilTown();
        x.field(2, 1);
        x.cell(0, 8, 0, 31, 70);
        x.cell(1, 8, 0, 0, 0);
        x.hour();
        // 101 * 8 / 40 = 20 of 101: 13 of oil, 6 of water
        cells(x, "oil and water", 3, 57, 13);
        cells(x, "oil and water", 2, 25, 6);
    }

    private static void hourTakesByLots() {
        OilTown x = new OilTown();
        x.field(3, 1);
        x.lay(0, 2);
        x.lay(2, 5);
        x.cell(0, 8, 0, 0, 40);
        x.cell(1, 8, 0, 0, 0);
        x.cell(2, 8, 0, 0, 40);
        x.hour();
        cells(x, "it keeps of whom it is", 12, 32, 8, 0);
        cells(x, "it keeps of whom it is", 15, 0, 8, 32);
        x.cell(0, 8, 0, 0, 0);
        x.cell(2, 8, 0, 0, 0);
        x.hour();
        // 3 of 8 and 8: 1 each and one more of lot 2; then 3 of 6 and 7: the same again
        cells(x, "what lacks is of the least", 12, 2, 4, 2);
        cells(x, "what lacks is of the least", 15, 1, 6, 1);
        cells(x, "the sums", 3, 3, 10, 3);
    }

    private static void hourByPush() {
        OilTown x = new OilTown();
        x.field(2, 1);
        x.cell(0, 8, 100, 0, 50);
        x.cell(1, 8, 0, 120, 0);
        x.hour();
        // 150 against 120: 6 of oil go
        cells(x, "push counts all three", 3, 44, 6);
        cells(x, "push counts all three", 2, 0, 120);
        x.cell(0, 8, 60, 0, 60);
        x.cell(1, 8, 0, 60, 60);
        x.hour();
        cells(x, "as much push: none", 3, 60, 60);
    }

    private static void hourDraws() {
        OilTown x = Due.withPersons(1);
        x.field(1, 1);
        x.lay(0, 0);
        x.owner(0, 0);
        x.cell(0, 5, 0, 30, 70);
        x.drill(0, 0, 15);
        due.is("15 of 100, 70 of them oil", x.hour(), 10);
        due.is("oil", x.cellOf(0, 3), 60);
        due.is("water", x.cellOf(0, 2), 25);
        due.is("tank", x.told(0, 0), 10);
        x.will(0, 0);
        due.is("no will", x.hour(), 0);
        x.will(0, 60);
        x.open(0, false);
        due.is("shut", x.hour(), 0);
        due.is("nothing went", x.cellOf(0, 5), 85);
        x.open(0, true);
        due.is("60 of 85, 60 of them oil", x.hour(), 42);
        due.is("the rest: 25", x.hour(), 18);
        due.is("oil", x.cellOf(0, 3), 0);
        due.is("water", x.cellOf(0, 2), 0);
        due.is("nothing is left", x.hour(), 0);
        due.is("count(8)", x.count(8), 70);
    }

    private static void hourDrawsInOrder() {
        OilTown x = Due.withPersons(2);
        x.field(2, 1);
        x.lay(0, 0);
        x.lay(1, 1);
        x.owner(0, 0);
        x.owner(1, 1);
        x.cell(0, 8, 0, 0, 50);
        x.cell(1, 8, 0, 0, 0);
        x.drill(0, 0, 40);
        x.drill(0, 0, 40);
        x.drill(1, 1, 40);
        due.is("40, then 10, and nothing by then beside", x.hour(), 50);
        due.is("well 0", x.wellOf(0, 4), 40);
        due.is("well 1", x.wellOf(1, 4), 10);
        x.cell(0, 8, 0, 0, 140);
        due.is("80 first, then what is left flows", x.hour(), 80);
        cells(x, "60 * 8 / 40 went", 3, 48, 12);
        due.is("whose oil it had been", x.hour(), 60);
        due.is("of lot 0 by person 1", x.told(1, 10), 12);
        due.is("of lot 1 by person 1", x.told(1, 11), 0);
    }

    private static void hourEnds() {
        OilTown x = new OilTown();
        for (int i = 0; i < 199; i++) {
            due.is("hour() " + i, x.hour(), 0);
        }
        due.is("count(7)", x.count(7), 199);
        due.is("hour()", x.hour(), OilTown.FULL);
        due.is("count(7)", x.count(7), 199);
        due.is("price(49)", x.price(49), 100);
        due.is("price(50)", x.price(50), OilTown.BAD);
        x.field(1, 1);
        due.is("hour() of a new field", x.hour(), 0);
    }
}
