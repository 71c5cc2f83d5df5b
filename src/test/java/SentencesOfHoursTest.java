/** Part 1 of the document, THE FIELD: the sentences that tell how an HOUR goes, each at its edges. */
public final class SentencesOfHoursTest {
    private static final int NONE = OilTown.NONE;
    private static final Due due = new Due("SentencesOfHoursTest");

    public static void main(String[] args) {
        numberedRowByRow();
        fieldsOfOneCell();
        oilIsOfTheLotThen();
        oilMayComeAboveWhatCanBeTold();
        drawsTheLessOfWillAndWhatThereIs();
        drawsOilDividedDown();
        drawsHourByHour();
        drawsWhereThereIsNone();
        drawsByNumbers();
        drawsAheadOfFlows();
        takenByLotsDividedDown();
        takenByLotsWhatLacks();
        takenAllAndNone();
        takenPassesOverWhoHasNoMore();
        flowsToLessPushAlone();
        flowsToEachOfFour();
        wantIsDividedDown();
        wantTakesTheLessSand();
        wantsUpToWhatThereIs();
        wantsAboveWhatThereIs();
        wantsWithoutLiquid();
        wantsOfOneBarrel();
        flowsOfOilAndWater();
        flowsByWhatThereWasAhead();
        flowsTakenOfWhatIsLeft();
        flowsInThatOrder();
        flowsTakeNothingThatComes();
        due.end();
    }

    /** Cells of SAND 8 in one row: 40 by 8 is 5, so a fifth of a difference is wanted. */
    private static OilTown row(int... oil) {
        OilTown x = new OilTown();
        x.field(oil.length, 1);
        for (int c = 0; c < oil.length; c++) {
            x.cell(c, 8, 0, 0, oil[c]);
        }
        return x;
    }

    private static void cells(OilTown x, String when, int what, int... want) {
        for (int c = 0; c < want.length; c++) {
            due.is(when + ": cellOf(" + c + ", " + what + ")", x.cellOf(c, what), want[c]);
        }
    }

    /** "numbered row by row": the end of a row does not lie beside the beginning of the next. */
    private static void numberedRowByRow() {
        OilTown x = new OilTown();
        x.field(3, 2);
        for (int c = 0; c < 6; c++) {
            x.cell(c, 8, 0, 0, c == 2 ? 100 : 0);
        }
        x.hour();
        cells(x, "from the end of row 0", 3, 0, 20, 60, 0, 0, 20);
        x.field(2, 3);
        for (int c = 0; c < 6; c++) {
            x.cell(c, 8, 0, 0, c == 4 ? 100 : 0);
        }
        x.hour();
        cells(x, "from the beginning of row 2", 3, 0, 0, 20, 0, 60, 20);
        x.field(1, 6);
        x.cell(5, 5, 0, 0, 80);
        x.hour();
        cells(x, "one column", 3, 0, 0, 0, 0, 10, 70);
        x.field(6, 1);
        x.cell(0, 5, 0, 0, 80);
        x.hour();
        cells(x, "one row", 3, 70, 10, 0, 0, 0, 0);
    }

    private static void fieldsOfOneCell() {
        OilTown x = new OilTown();
        x.field(1, 1);
        x.cell(0, 9, 999, 999, 999);
        x.hour();
        due.is("there is none beside it", x.cellOf(0, 5), 2997);
    }

    /** "what is told to be there is of the CELL's LOT then (of place 8, if it has none); it keeps that". */
    private static void oilIsOfTheLotThen() {
        OilTown x = row(0, 0);
        x.cell(0, 8, 0, 0, 100);
        due.is("told of no LOT", x.cellOf(0, 18), 100);
        x.lay(0, 0);
        due.is("it keeps that", x.cellOf(0, 18), 100);
        due.is("none of LOT 0", x.cellOf(0, 10), 0);
        x.lay(1, 7);
        x.hour();
        due.is("it keeps that wherever it goes", x.cellOf(1, 18), 20);
        due.is("none of LOT 7", x.cellOf(1, 17), 0);
        x.cell(1, 8, 0, 0, 9);
        due.is("told anew, of LOT 7", x.cellOf(1, 17), 9);
        due.is("what was there went", x.cellOf(1, 18), 0);
        x.lay(1, NONE);
        x.cell(1, 8, 0, 0, 5);
        due.is("told anew, of no LOT", x.cellOf(1, 18), 5);
        due.is("what was there went", x.cellOf(1, 17), 0);
        x.cell(1, 8, 0, 0, 0);
        due.is("none is told", x.cellOf(1, 18), 0);
    }

    /** "OIL (0 to 999 when they are told)": what flows may be more. */
    private static void oilMayComeAboveWhatCanBeTold() {
        OilTown x = new OilTown();
        x.field(2, 1);
        x.cell(0, 9, 999, 999, 999);
        x.cell(1, 9, 0, 0, 999);
        x.hour();
        // (2997 - 999) * 9 / 40 = 449, half of it OIL and half WATER
        cells(x, "OIL", 3, 775, 1223);
        cells(x, "WATER", 2, 775, 224);
        due.is("PUSH", x.cellOf(1, 5), 1447);
        due.is("of place 8", x.cellOf(1, 18), 1223);
    }

    private static void drawn(int oil, int water, int will, int wantOil, int wantWater) {
        String when = "WILL " + will + " of " + oil + " and " + water;
        OilTown x = Towns.oneCell(1, oil, water);
        x.drill(0, 0, will);
        due.is(when + ": came up", x.hour(), wantOil);
        due.is(when + ": OIL that it DREW", x.wellOf(0, 4), wantOil);
        due.is(when + ": WATER that it DREW", x.wellOf(0, 5), wantWater);
        due.is(when + ": OIL left", x.cellOf(0, 3), oil - wantOil);
        due.is(when + ": WATER left", x.cellOf(0, 2), water - wantWater);
        due.is(when + ": TANK", x.told(0, 0), wantOil);
    }

    /** "the less of its WILL and of OIL and WATER of its CELL". */
    private static void drawsTheLessOfWillAndWhatThereIs() {
        drawn(30, 10, 40, 30, 10);
        drawn(30, 10, 41, 30, 10);
        drawn(30, 10, 60, 30, 10);
        drawn(61, 0, 60, 60, 0);
        drawn(60, 0, 60, 60, 0);
        drawn(59, 0, 60, 59, 0);
        drawn(50, 50, 0, 0, 0);
    }

    /** "d times OIL by OIL and WATER, divided down, the rest WATER". */
    private static void drawsOilDividedDown() {
        drawn(30, 10, 39, 29, 10);
        drawn(30, 10, 4, 3, 1);
        drawn(30, 10, 3, 2, 1);
        drawn(30, 10, 1, 0, 1);
        drawn(999, 999, 1, 0, 1);
        drawn(999, 999, 2, 1, 1);
        drawn(1, 999, 60, 0, 60);
        drawn(999, 1, 60, 59, 1);
        drawn(999, 1, 1, 0, 1);
    }

    /** What a WELL DREW "so far" is the sum of its HOURS. */
    private static void drawsHourByHour() {
        OilTown x = Towns.oneCell(1, 60, 30);
        x.drill(0, 0, 30);
        for (int hours = 1; hours <= 3; hours++) {
            due.is("came up", x.hour(), 20);
            due.is("OIL so far", x.wellOf(0, 4), 20 * hours);
            due.is("WATER so far", x.wellOf(0, 5), 10 * hours);
            due.is("OIL of LOT 0 so far", x.wellOf(0, 10), 20 * hours);
            due.is("TANK", x.told(0, 0), 20 * hours);
        }
    }

    private static void drawsWhereThereIsNone() {
        drawn(0, 0, 60, 0, 0);
        drawn(0, 5, 60, 0, 5);
        drawn(5, 0, 60, 5, 0);
        drawn(1, 0, 1, 1, 0);
    }

    /** "WELLS by numbers, each that is open": the next draws of what the one before has left. */
    private static void drawsByNumbers() {
        OilTown x = Towns.oneCell(1, 50, 50);
        x.drill(0, 0, 60);
        x.drill(0, 0, 60);
        x.drill(0, 0, 60);
        due.is("came up", x.hour(), 50);
        int[] oil = {30, 20, 0};
        for (int k = 0; k < 3; k++) {
            due.is("OIL of WELL " + k, x.wellOf(k, 4), oil[k]);
            due.is("WATER of WELL " + k, x.wellOf(k, 5), oil[k]);
        }
        x.cell(0, 0, 0, 0, 100);
        x.open(0, false);
        due.is("the first is shut", x.hour(), 100);
        due.is("it draws none", x.wellOf(0, 4), 30);
        due.is("the second draws first", x.wellOf(1, 4), 80);
        due.is("then the third", x.wellOf(2, 4), 40);
    }

    private static void drawsAheadOfFlows() {
        OilTown x = Due.withPersons(1);
        x.field(2, 1);
        x.lay(0, 0);
        x.owner(0, 0);
        x.cell(0, 8, 0, 0, 60);
        x.cell(1, 8, 0, 0, 0);
        x.drill(0, 0, 60);
        due.is("all comes up, none flows", x.hour(), 60);
        cells(x, "nothing is left", 3, 0, 0);
        x.cell(1, 8, 0, 0, 50);
        due.is("what flows in an HOUR comes up in the next", x.hour(), 0);
        due.is("the next", x.hour(), 10);
    }

    /**
     * A CELL with so much OIL of LOTS 0, 3, 6 and of place 8 (0 to 199 each), of LOT 1 now, that person 0 owns; above,
     * left, right and below of it are CELLS that had that OIL. The corners are of SAND 0.
     */
    private static OilTown mixed(int of0, int of3, int of6, int of8) {
        OilTown x = Due.withPersons(1);
        int[] corners = {0, 2, 6, 8};
        for (int c : corners) {
            x.cell(c, 0, 0, 0, 0);
        }
        int[] from = {1, 3, 5, 7};
        int[] lots = {0, 3, 6, NONE};
        int[] goes = {of0, of3, of6, of8};
        for (int i = 0; i < 4; i++) {
            x.lay(from[i], lots[i]);
            x.cell(from[i], 8, 0, 0, 5 * goes[i]);
        }
        x.lay(4, 1);
        x.owner(1, 0);
        x.cell(4, 8, 0, 0, 0);
        x.hour();
        for (int c : from) {
            x.cell(c, 0, 0, 0, 0);
        }
        return x;
    }

    private static void lots(OilTown x, String when, int... want) {
        int[] lots = {0, 3, 6, 8};
        for (int i = 0; i < 4; i++) {
            due.is(when + ": of LOT " + lots[i], x.wellOf(0, 10 + lots[i]), want[i]);
        }
    }

    private static void taken(int n, int[] of, int... want) {
        OilTown x = mixed(of[0], of[1], of[2], of[3]);
        String when = n + " of " + java.util.Arrays.toString(of);
        due.is(when + ": all", x.cellOf(4, 3), of[0] + of[1] + of[2] + of[3]);
        x.drill(0, 4, n);
        x.hour();
        lots(x, when, want);
        int[] lots = {0, 3, 6, 8};
        for (int i = 0; i < 4; i++) {
            due.is(when + ", left of LOT " + lots[i], x.cellOf(4, 10 + lots[i]), of[i] - want[i]);
            due.is(when + ", told of LOT " + lots[i], x.told(0, 10 + lots[i]), want[i]);
        }
    }

    /** "n times what there is of it by the sum of all, divided down". */
    private static void takenByLotsDividedDown() {
        taken(10, new int[] {8, 4, 6, 2}, 4, 2, 3, 1);
        taken(5, new int[] {6, 4, 0, 0}, 3, 2, 0, 0);
        taken(20, new int[] {10, 20, 30, 40}, 2, 4, 6, 8);
    }

    /** "what lacks then one each of those with the least numbers that have more". */
    private static void takenByLotsWhatLacks() {
        taken(1, new int[] {1, 1, 1, 1}, 1, 0, 0, 0);
        taken(2, new int[] {1, 1, 1, 1}, 1, 1, 0, 0);
        taken(3, new int[] {1, 1, 1, 1}, 1, 1, 1, 0);
        // 1.8 and 1.2: the one that lacks is of the least number, not of the greatest share
        taken(3, new int[] {4, 6, 0, 0}, 2, 1, 0, 0);
        // 4.8, 0.6 and 0.6: two lack
        taken(6, new int[] {8, 1, 1, 0}, 5, 1, 0, 0);
        // 0.1, 0.1, 0.1 and 2.7: one lacks
        taken(3, new int[] {3, 3, 3, 81}, 1, 0, 0, 2);
        // 0.9, 0.9, 0.9 and 0.3: three lack
        taken(3, new int[] {3, 3, 3, 1}, 1, 1, 1, 0);
    }

    private static void takenAllAndNone() {
        taken(0, new int[] {1, 2, 3, 4}, 0, 0, 0, 0);
        taken(10, new int[] {1, 2, 3, 4}, 1, 2, 3, 4);
        taken(60, new int[] {1, 2, 3, 4}, 1, 2, 3, 4);
        taken(9, new int[] {1, 2, 3, 4}, 1, 2, 3, 3);
        taken(60, new int[] {0, 0, 0, 0}, 0, 0, 0, 0);
    }

    /** "that have more": one with nothing, or nothing left, is passed over. */
    private static void takenPassesOverWhoHasNoMore() {
        taken(1, new int[] {0, 1, 1, 1}, 0, 1, 0, 0);
        taken(1, new int[] {0, 0, 0, 2}, 0, 0, 0, 1);
        taken(2, new int[] {0, 1, 0, 2}, 0, 1, 0, 1);
        taken(1, new int[] {0, 0, 5, 5}, 0, 0, 1, 0);
    }

    /** "to each of those beside it with less PUSH". */
    private static void flowsToLessPushAlone() {
        OilTown x = row(50, 50);
        x.hour();
        cells(x, "as much PUSH", 3, 50, 50);
        x = row(50, 0);
        x.cell(1, 8, 50, 0, 0);
        x.hour();
        cells(x, "as much PUSH, of GAS", 3, 50, 0);
        x.cell(1, 8, 45, 0, 0);
        x.hour();
        cells(x, "5 less", 3, 49, 1);
        x = row(50, 0);
        x.cell(1, 8, 0, 60, 0);
        x.hour();
        cells(x, "more PUSH there, of WATER: it flows here", 2, 2, 58);
        cells(x, "more PUSH there: no OIL flows", 3, 50, 0);
    }

    /** "(left, right, above, below)": by sides, and none over corners. */
    private static void flowsToEachOfFour() {
        OilTown x = new OilTown();
        for (int c = 0; c < 9; c++) {
            x.cell(c, 8, 0, 0, c == 4 ? 50 : 0);
        }
        x.hour();
        cells(x, "10 to each", 3, 0, 10, 0, 10, 10, 10, 0, 10, 0);
    }

    private static void flow(int sand, int otherSand, int oil, int want) {
        OilTown x = row(0, 0);
        x.cell(0, sand, 0, 0, oil);
        x.cell(1, otherSand, 0, 0, 0);
        x.hour();
        cells(x, oil + " of OIL, SAND " + sand + " and " + otherSand, 3, oil - want, want);
    }

    /** "the difference times the less SAND of both, by 40, divided down". */
    private static void wantIsDividedDown() {
        flow(8, 8, 4, 0);
        flow(8, 8, 5, 1);
        flow(8, 8, 9, 1);
        flow(8, 8, 10, 2);
        flow(1, 1, 39, 0);
        flow(1, 1, 40, 1);
        flow(9, 9, 4, 0);
        flow(9, 9, 5, 1);
        flow(9, 9, 999, 224);
    }

    private static void wantTakesTheLessSand() {
        flow(9, 1, 40, 1);
        flow(1, 9, 40, 1);
        flow(0, 9, 999, 0);
        flow(9, 0, 999, 0);
        flow(0, 0, 999, 0);
        flow(4, 5, 100, 10);
        flow(5, 4, 100, 10);
    }

    /** The cell in the middle wants 7 to both sides: its PUSH is 35. */
    private static OilTown wantsSeven(int oil, int water) {
        OilTown x = row(0, 0, 0);
        x.cell(1, 8, 35 - oil - water, water, oil);
        x.hour();
        return x;
    }

    /** "If a CELL's WANTS are more than its OIL and WATER L": not if they are as many. */
    private static void wantsUpToWhatThereIs() {
        cells(wantsSeven(15, 0), "14 of 15", 3, 7, 1, 7);
        cells(wantsSeven(14, 0), "14 of 14", 3, 7, 0, 7);
        cells(wantsSeven(0, 14), "14 of 14, WATER", 2, 7, 0, 7);
    }

    /** "each becomes it times L by their sum, divided down". */
    private static void wantsAboveWhatThereIs() {
        cells(wantsSeven(13, 0), "7 * 13 / 14 = 6", 3, 6, 1, 6);
        cells(wantsSeven(10, 0), "7 * 10 / 14 = 5", 3, 5, 0, 5);
        cells(wantsSeven(9, 0), "7 * 9 / 14 = 4", 3, 4, 1, 4);
        cells(wantsSeven(2, 0), "7 * 2 / 14 = 1", 3, 1, 0, 1);
        cells(wantsSeven(1, 0), "7 * 1 / 14 = 0", 3, 0, 1, 0);
        OilTown x = row(0, 0, 0);
        x.cell(0, 4, 0, 0, 0);
        x.cell(1, 8, 80, 0, 20);
        x.hour();
        // 100 * 4 / 40 = 10 and 100 * 8 / 40 = 20, of 20: 6 and 13
        cells(x, "by their sum, not alike", 3, 6, 1, 13);
    }

    private static void wantsWithoutLiquid() {
        cells(wantsSeven(0, 0), "GAS alone", 5, 0, 35, 0);
        OilTown x = row(0, 0);
        x.cell(0, 9, 999, 0, 0);
        x.cell(1, 9, 0, 0, 1);
        x.hour();
        cells(x, "nothing to go", 3, 0, 1);
        cells(x, "GAS stays", 1, 999, 0);
    }

    /** L is 1: it goes if it is wanted once, and stays if it is wanted twice. */
    private static void wantsOfOneBarrel() {
        OilTown x = row(0, 0);
        x.cell(0, 8, 4, 0, 1);
        x.hour();
        cells(x, "5 * 8 / 40 = 1 of 1", 3, 0, 1);
        x = row(0, 0);
        x.cell(1, 8, 4, 1, 0);
        x.hour();
        cells(x, "5 * 8 / 40 = 1 of 1, WATER", 2, 1, 0);
        x = row(0, 0);
        x.cell(0, 9, 999, 0, 1);
        x.hour();
        cells(x, "1000 * 8 / 40 = 200: 200 * 1 / 200", 3, 0, 1);
        x = row(0, 0, 0);
        x.cell(1, 8, 4, 0, 1);
        x.hour();
        cells(x, "1 and 1: 1 * 1 / 2 = 0", 3, 0, 1, 0);
    }

    /** "WANT times OIL by L of OIL goes, WANT times WATER by L of WATER (divided down)". */
    private static void flowsOfOilAndWater() {
        OilTown x = wantsSeven(7, 7);
        cells(x, "7 * 7 / 14 = 3", 3, 3, 1, 3);
        cells(x, "7 * 7 / 14 = 3", 2, 3, 1, 3);
        x = wantsSeven(4, 10);
        cells(x, "7 * 4 / 14 = 2", 3, 2, 0, 2);
        cells(x, "7 * 10 / 14 = 5", 2, 5, 0, 5);
        x = wantsSeven(1, 20);
        cells(x, "7 * 1 / 21 = 0", 3, 0, 1, 0);
        cells(x, "7 * 20 / 21 = 6", 2, 6, 8, 6);
        x = wantsSeven(3, 18);
        cells(x, "7 * 3 / 21 = 1", 3, 1, 1, 1);
        cells(x, "7 * 18 / 21 = 6", 2, 6, 6, 6);
    }

    /** "by what it had ahead of all FLOWS": the second flow is as the first. */
    private static void flowsByWhatThereWasAhead() {
        OilTown x = wantsSeven(10, 10);
        cells(x, "7 * 10 / 20 = 3, twice", 3, 3, 4, 3);
        cells(x, "7 * 10 / 20 = 3, twice", 2, 3, 4, 3);
        x = row(100, 50, 0);
        x.hour();
        cells(x, "10 and 10, by what CELLS have then", 3, 90, 50, 10);
    }

    /** "OIL TAKEN by LOTS of what is left of the row", "for each of the four in that order". */
    private static void flowsTakenOfWhatIsLeft() {
        OilTown x = mixed(1, 1, 1, 1);
        for (int c : new int[] {1, 3, 5, 7}) {
            x.cell(c, 8, 0, 0, 0);
        }
        x.hour();
        due.is("4 * 8 / 40 = 0", x.cellOf(4, 3), 4);
        x = mixed(5, 5, 5, 5);
        for (int c : new int[] {1, 3, 5, 7}) {
            x.cell(c, 8, 0, 0, 0);
        }
        // 20 * 8 / 40 = 4 to each: one of each LOT, of 5, then of 4, 3, 2
        x.hour();
        for (int c : new int[] {1, 3, 5, 7}) {
            for (int l : new int[] {0, 3, 6, 8}) {
                due.is("cellOf(" + c + ", 1" + l + ")", x.cellOf(c, 10 + l), 1);
            }
        }
    }

    /** Left, right, above and below take one barrel each; so many are of LOTS 0, 3, 6 and of place 8. */
    private static void takenInTurn(int[] of, int... turns) {
        OilTown x = mixed(of[0], of[1], of[2], of[3]);
        String when = "of " + java.util.Arrays.toString(of);
        int[] to = {3, 5, 1, 7};
        for (int c : to) {
            x.cell(c, 8, 0, 0, 0);
        }
        x.hour();
        for (int i = 0; i < 4; i++) {
            due.is(when + ": cellOf(" + to[i] + ", 3)", x.cellOf(to[i], 3), 1);
            due.is(when + ": of LOT " + turns[i], x.cellOf(to[i], 10 + turns[i]), 1);
        }
    }

    /** "for each of the four in that order": left, right, above, below; 5 * 8 / 40 is 1 to each. */
    private static void flowsInThatOrder() {
        takenInTurn(new int[] {2, 1, 1, 1}, 0, 0, 3, 6);
        takenInTurn(new int[] {1, 2, 1, 1}, 0, 3, 3, 6);
        takenInTurn(new int[] {1, 1, 2, 1}, 0, 3, 6, 6);
        takenInTurn(new int[] {1, 1, 1, 2}, 0, 3, 6, 8);
        takenInTurn(new int[] {0, 0, 1, 4}, 6, 8, 8, 8);
        takenInTurn(new int[] {0, 5, 0, 0}, 3, 3, 3, 3);
    }

    /** "all by what CELLS have then": what comes in an HOUR does not go on in it, of whosever it is. */
    private static void flowsTakeNothingThatComes() {
        OilTown x = row(0, 0, 0);
        x.lay(0, 1);
        x.lay(1, 2);
        x.cell(0, 8, 0, 0, 100);
        x.cell(1, 8, 0, 0, 50);
        x.hour();
        cells(x, "of LOT 1", 11, 90, 10, 0);
        cells(x, "of LOT 2", 12, 0, 40, 10);
        x.lay(2, 1);
        x.cell(0, 8, 0, 0, 0);
        x.lay(1, 2);
        x.cell(1, 8, 0, 0, 50);
        x.cell(2, 8, 0, 0, 100);
        x.hour();
        cells(x, "the other way: of LOT 1", 11, 0, 10, 90);
        cells(x, "the other way: of LOT 2", 12, 10, 40, 0);
    }
}
