/** Part 2 of the document, THE TAPE: the sentences on what LINES let, each at its edges. */
public final class SentencesOfOrdersTest {
    private static final int NONE = OilTown.NONE, BAD = OilTown.BAD, STATE = OilTown.STATE;
    private static final Due due = new Due("SentencesOfOrdersTest");

    public static void main(String[] args) {
        takenInPlaceOfThoseThereWere();
        refusedTellsNothing();
        voidAsIfNeverTold();
        voidsTellMoreOrLess();
        holdsFromItsShiftOn();
        holdsTheLatestFrom();
        nearIsNoneAtFirst();
        nearIsHowFarBelow();
        nearOfCellsWithoutALot();
        nearInALotAlone();
        apartIsNearerThan();
        apartOfAllWells();
        exceptFromItsShiftOn();
        exceptOfOnePerson();
        letOfShut();
        letOfEach();
        letOfAcre();
        letOfAcreWithoutALot();
        letIsTheLeast();
        letIsNone();
        hotAboveLet();
        hotOfEachWellAndShift();
        hotInTheLastShift();
        priceFallsByFifths();
        priceIsFourAtLeast();
        priceOfShiftZero();
        letsFromNoneToNine();
        letsAsIfToldAlone();
        letsByTheShift();
        letsChangesNothing();
        due.end();
    }

    /** A row of cells of LOT 0 that person 0 owns; the last is of LOT 1, that person 1 owns. */
    private static OilTown lane(int cells) {
        OilTown x = Due.withPersons(2);
        x.field(cells, 1);
        for (int c = 0; c < cells; c++) {
            x.lay(c, c < cells - 1 ? 0 : 1);
        }
        x.owner(0, 0);
        x.owner(1, 1);
        return x;
    }

    /** One cell with a WELL that draws so many an HOUR, for some SHIFTS. */
    private static OilTown drawn(int anHour, int shifts) {
        OilTown x = Towns.oneCell(1, 999, 0);
        x.drill(0, 0, anHour);
        Towns.hours(x, 4 * shifts);
        return x;
    }

    /** "A text that is taken tells all LINES, in place of those there were." */
    private static void takenInPlaceOfThoseThereWere() {
        OilTown x = new OilTown();
        due.is("three", Due.orders(x, "near 1; apart 2; each 3;"), 3);
        due.is("one", Due.orders(x, "from 7 acre 4;"), 1);
        due.is("count(6)", x.count(6), 1);
        int[] want = {3, 7, 4, 0};
        for (int what = 0; what < 4; what++) {
            due.is("line(0, " + what + ")", x.line(0, what), want[what]);
        }
        due.is("line(1, 0)", x.line(1, 0), BAD);
        due.is("near no more: from 0 again", Due.orders(x, "near 1;"), 1);
        due.is("none", Due.orders(x, ""), 0);
        due.is("count(6)", x.count(6), 0);
    }

    /** "those that were told stay"; "THE TAPE (empty then)". */
    private static void refusedTellsNothing() {
        OilTown x = drawn(10, 1);
        Due.orders(x, "each 30; near 1;");
        x.voids(1);
        due.is("refused at its end", Due.orders(x, "shut; near 2; apart 3"), -31);
        due.is("FAULT", x.fault(), 2);
        due.is("empty then", x.count(12), 0);
        due.is("count(6)", x.count(6), 2);
        due.is("line(0, 0)", x.line(0, 0), 2);
        due.is("VOID stays", x.line(1, 3), 1);
        due.is("LET as it was", x.drew(0, 0, 1), 30);
        due.is("an empty TAPE is taken then", x.orders(), 0);
        due.is("FAULT of the latest", x.fault(), 0);
    }

    /** "LINES can be VOID (as if they had never been told)." */
    private static void voidAsIfNeverTold() {
        OilTown x = lane(3);
        Due.orders(x, "near 2; apart 1; except 1; shut; each 5; acre 1;");
        x.drill(0, 0, 1);
        due.is("near", x.why(0, 1), 2);
        x.voids(0);
        due.is("no near", x.why(0, 1), 0);
        due.is("apart", x.why(0, 0), 3);
        x.voids(1);
        due.is("no apart", x.why(0, 0), 0);
        due.is("shut", x.drew(0, 0, 1), 0);
        x.voids(3);
        due.is("acre", x.drew(0, 0, 1), 2);
        x.voids(5);
        due.is("each", x.drew(0, 0, 1), 5);
        x.voids(4);
        due.is("NONE", x.drew(0, 0, 1), NONE);
        due.is("LINES are numbered as they were", x.count(6), 6);
        due.is("line(2, 3)", x.line(2, 3), 0);
        Due.orders(x, "near 2; apart 1; except 1;");
        x.drill(1, 2, 1);
        due.is("excepted", x.why(1, 2), 0);
        x.voids(2);
        due.is("not excepted", x.why(1, 2), 2);
    }

    /** "how many HOT barrels there are less by that (less than 0: more)". */
    private static void voidsTellMoreOrLess() {
        OilTown x = drawn(10, 3);
        Due.orders(x, "from 1 each 40; each 15; from 2 each 39; from 49 shut;");
        due.is("25, 0 and 1", x.count(10), 26);
        due.is("none: nothing is DRAWN in SHIFT 49", x.voids(3), 0);
        due.is("1 less", x.voids(2), 1);
        due.is("25 more in both", x.voids(0), -50);
        due.is("75", x.count(10), 75);
        due.is("75 less", x.voids(1), 75);
        due.is("VOID", x.voids(1), -100002);
        due.is("VOID changes nothing", x.count(10), 0);
    }

    /** "the one with the latest from up to it". */
    private static void holdsFromItsShiftOn() {
        OilTown x = drawn(10, 0);
        Due.orders(x, "from 2 each 7; from 49 each 3;");
        due.is("SHIFT 1", x.drew(0, 1, 1), NONE);
        due.is("SHIFT 2", x.drew(0, 2, 1), 7);
        due.is("SHIFT 3", x.drew(0, 3, 1), 7);
        due.is("SHIFT 48", x.drew(0, 48, 1), 7);
        due.is("SHIFT 49", x.drew(0, 49, 1), 3);
    }

    private static void holdsTheLatestFrom() {
        OilTown x = drawn(10, 0);
        Due.orders(x, "from 5 each 5; from 3 each 3; each 9; from 4 each 4;");
        int[] want = {9, 9, 9, 3, 4, 5, 5};
        for (int shift = 0; shift < want.length; shift++) {
            due.is("SHIFT " + shift, x.drew(0, shift, 1), want[shift]);
        }
        x.voids(3);
        due.is("SHIFT 4, as if it had never been told", x.drew(0, 4, 1), 3);
    }

    /** "(near, apart: 0, if there is none)". */
    private static void nearIsNoneAtFirst() {
        OilTown x = lane(2);
        due.is("no near", x.why(0, 0), 0);
        due.is("drill", x.drill(0, 0, 1), 0);
        due.is("no apart", x.why(0, 0), 0);
        due.is("drill", x.drill(0, 0, 1), 1);
        Due.orders(x, "near 0; apart 0;");
        due.is("0 of both", x.why(0, 0), 0);
        Due.orders(x, "from 1 near 9; from 1 apart 9;");
        due.is("not from now on", x.why(0, 0), 0);
        Towns.hours(x, 4);
        due.is("from SHIFT 1 on", x.why(0, 0), 2);
    }

    /** "no CELL of another LOT is nearer than near (HOW FAR below it)". */
    private static void nearIsHowFarBelow() {
        OilTown x = lane(6);
        for (int near = 0; near <= 9; near++) {
            Due.orders(x, "near " + near + ";");
            for (int c = 0; c < 5; c++) {
                due.is(5 - c + " away, near " + near, x.why(0, c), 5 - c < near ? 2 : 0);
            }
        }
        x = Due.withPersons(1);
        x.field(6, 6);
        for (int c = 0; c < 35; c++) {
            x.lay(c, 0);
        }
        x.owner(0, 0);
        Due.orders(x, "near 9;");
        due.is("differences summed: 5 and 5", x.why(0, 0), 0);
        due.is("5 and 4", x.why(0, 6), 0);
        due.is("4 and 5", x.why(0, 1), 0);
        due.is("4 and 4", x.why(0, 7), 2);
        due.is("5 and 3", x.why(0, 12), 2);
        due.is("drill", x.drill(0, 7, 1), STATE);
        due.is("drill", x.drill(0, 6, 1), 0);
    }

    /** "(or none)". */
    private static void nearOfCellsWithoutALot() {
        OilTown x = lane(3);
        Due.orders(x, "near 2;");
        due.is("1 from another LOT", x.why(0, 1), 2);
        x.lay(2, NONE);
        due.is("1 from none", x.why(0, 1), 2);
        due.is("2 from none", x.why(0, 0), 0);
        x.lay(2, 0);
        due.is("all of one LOT", x.why(0, 1), 0);
    }

    private static void nearInALotAlone() {
        OilTown x = Towns.oneCell(1, 0, 0);
        Due.orders(x, "near 9;");
        due.is("one cell", x.why(0, 0), 0);
        x.lay(0, NONE);
        due.is("of no LOT", x.why(0, 0), 1);
    }

    /** "no WELL nearer than apart". */
    private static void apartIsNearerThan() {
        OilTown x = lane(6);
        x.drill(0, 0, 1);
        for (int apart = 0; apart <= 9; apart++) {
            Due.orders(x, "apart " + apart + ";");
            for (int c = 0; c < 5; c++) {
                due.is(c + " away, apart " + apart, x.why(0, c), c < apart ? 3 : 0);
            }
        }
    }

    private static void apartOfAllWells() {
        OilTown x = lane(4);
        x.drill(1, 3, 0);
        x.open(0, false);
        Due.orders(x, "apart 2;");
        due.is("another's, shut, of no WILL: 1 away", x.why(0, 2), 3);
        due.is("2 away", x.why(0, 1), 0);
        x.drill(0, 0, 1);
        due.is("2 from one and 1 from another", x.why(0, 1), 3);
        due.is("drill", x.drill(0, 1, 1), STATE);
        x.field(2, 1);
        x.lay(0, 0);
        x.owner(0, 0);
        due.is("no WELL", x.why(0, 0), 0);
    }

    /** "unless an except of it that is not VOID is from THE SHIFT or ahead". */
    private static void exceptFromItsShiftOn() {
        OilTown x = lane(2);
        Due.orders(x, "near 9; from 2 except 0;");
        Towns.hours(x, 7);
        due.is("HOUR 7, SHIFT 1", x.why(0, 0), 2);
        x.hour();
        due.is("HOUR 8, SHIFT 2", x.why(0, 0), 0);
        Towns.hours(x, 4);
        due.is("SHIFT 3", x.why(0, 0), 0);
        x.voids(1);
        due.is("VOID", x.why(0, 0), 2);
        Due.orders(x, "near 9; from 4 except 0; from 3 except 0;");
        due.is("of two the one from THE SHIFT", x.why(0, 0), 0);
        x.voids(2);
        due.is("the other is to come", x.why(0, 0), 2);
        Towns.hours(x, 4);
        due.is("it came", x.why(0, 0), 0);
    }

    private static void exceptOfOnePerson() {
        OilTown x = lane(2);
        Due.orders(x, "near 2; except 1;");
        due.is("not this", x.why(0, 0), 2);
        due.is("this", x.why(1, 1), 0);
        Due.orders(x, "near 2; except 5; except 0;");
        due.is("this", x.why(0, 0), 0);
        due.is("not this", x.why(1, 1), 2);
        due.is("it does not HOLD the LOT", x.why(0, 1), 1);
    }

    /** "LET: 0, if a shut HOLDS". */
    private static void letOfShut() {
        OilTown x = drawn(10, 3);
        Due.orders(x, "each 999; acre 999; from 1 shut;");
        due.is("ahead of it", x.drew(0, 0, 1), 999);
        due.is("from it on", x.drew(0, 1, 1), 0);
        due.is("all is HOT", x.drew(0, 1, 2), 40);
        due.is("and on", x.drew(0, 49, 1), 0);
        x.voids(2);
        due.is("VOID", x.drew(0, 1, 1), 999);
    }

    private static void letOfEach() {
        OilTown x = drawn(10, 1);
        for (int each : new int[] {0, 1, 39, 40, 41, 999}) {
            Due.orders(x, "each " + each + ";");
            due.is("LET, each " + each, x.drew(0, 0, 1), each);
            due.is("HOT, each " + each, x.drew(0, 0, 2), Math.max(0, 40 - each));
        }
    }

    /** "acre times the CELLS of its CELL's LOT by the WELLS in CELLS of that LOT, as they are now, divided down". */
    private static void letOfAcre() {
        OilTown x = lane(6);
        x.drill(0, 0, 1);
        x.drill(0, 4, 1);
        x.drill(1, 5, 1);
        Due.orders(x, "acre 7;");
        due.is("7 * 5 / 2", x.drew(0, 0, 1), 17);
        due.is("7 * 5 / 2", x.drew(1, 0, 1), 17);
        due.is("7 * 1 / 1", x.drew(2, 0, 1), 7);
        Due.orders(x, "acre 8;");
        due.is("8 * 5 / 2", x.drew(0, 0, 1), 20);
        x.drill(0, 4, 1);
        due.is("8 * 5 / 3, as they are now", x.drew(0, 0, 1), 13);
        x.lay(5, 0);
        due.is("8 * 6 / 4, with another's WELL", x.drew(0, 0, 1), 12);
        Due.orders(x, "acre 0;");
        due.is("0", x.drew(0, 0, 1), 0);
        Due.orders(x, "acre 1;");
        due.is("1 * 6 / 4", x.drew(3, 0, 1), 1);
        x.field(6, 6);
        for (int c = 0; c < 36; c++) {
            x.lay(c, 0);
        }
        x.owner(0, 0);
        x.drill(0, 0, 1);
        Due.orders(x, "acre 999;");
        due.is("999 * 36", x.drew(0, 0, 1), 35964);
    }

    /** "(0, if its CELL has no LOT)". */
    private static void letOfAcreWithoutALot() {
        OilTown x = drawn(10, 1);
        x.lay(0, NONE);
        Due.orders(x, "acre 999;");
        due.is("acre", x.drew(0, 0, 1), 0);
        due.is("all is HOT", x.drew(0, 0, 2), 40);
        Due.orders(x, "acre 999; each 7;");
        due.is("acre and each", x.drew(0, 0, 1), 0);
        Due.orders(x, "each 7;");
        due.is("each", x.drew(0, 0, 1), 7);
        Due.orders(x, "from 1 acre 999;");
        due.is("no acre HOLDS", x.drew(0, 0, 1), NONE);
    }

    private static void letIsTheLeast() {
        OilTown x = drawn(10, 1);
        Due.orders(x, "each 20; acre 21;");
        due.is("each", x.drew(0, 0, 1), 20);
        Due.orders(x, "each 21; acre 20;");
        due.is("acre", x.drew(0, 0, 1), 20);
        Due.orders(x, "each 20; acre 20;");
        due.is("both", x.drew(0, 0, 1), 20);
        Due.orders(x, "each 0; acre 20; shut;");
        due.is("shut", x.drew(0, 0, 1), 0);
    }

    /** "NONE: neither". */
    private static void letIsNone() {
        OilTown x = drawn(60, 1);
        due.is("no LINE", x.drew(0, 0, 1), NONE);
        due.is("not HOT", x.drew(0, 0, 2), 0);
        Due.orders(x, "near 9; apart 9; except 0; from 1 shut; from 1 each 0; from 1 acre 0;");
        due.is("none of these HOLDS", x.drew(0, 0, 1), NONE);
        due.is("not HOT", x.count(10), 0);
    }

    /** "HOT: what it DREW of OIL in a SHIFT above LET". */
    private static void hotAboveLet() {
        OilTown x = drawn(10, 2);
        Due.orders(x, "each 39;");
        due.is("one above", x.drew(0, 0, 2), 1);
        due.is("by SHIFTS", x.wellOf(0, 6), 2);
        Due.orders(x, "each 40;");
        due.is("as many", x.drew(0, 0, 2), 0);
        Due.orders(x, "each 41;");
        due.is("below: no less than 0", x.drew(0, 0, 2), 0);
        due.is("count(10)", x.count(10), 0);
        Due.orders(x, "each 0;");
        due.is("all", x.wellOf(0, 6), 80);
        x = Towns.oneCell(1, 1, 1);
        x.drill(0, 0, 2);
        x.hour();
        Due.orders(x, "shut;");
        due.is("WATER is not HOT", x.count(10), 1);
    }

    private static void hotOfEachWellAndShift() {
        OilTown x = Towns.oneCell(1, 999, 0);
        for (int k = 0; k < 3; k++) {
            x.drill(0, 0, 1 + k);
        }
        Towns.hours(x, 4);
        x.will(1, 5);
        Towns.hours(x, 4);
        Due.orders(x, "each 5; from 1 each 11;");
        int[][] hot = {{0, 0}, {3, 9}, {7, 1}};
        for (int k = 0; k < 3; k++) {
            for (int shift = 0; shift < 2; shift++) {
                due.is("HOT of WELL " + k + " in SHIFT " + shift, x.drew(k, shift, 2), hot[k][shift]);
            }
            due.is("HOT of WELL " + k, x.wellOf(k, 6), hot[k][0] + hot[k][1]);
        }
        due.is("HOT of all", x.count(10), 20);
        due.is("HOT of the PERSON", x.told(0, 5), 20);
    }

    private static void hotInTheLastShift() {
        OilTown x = drawn(1, 49);
        Due.orders(x, "from 49 shut;");
        due.is("ahead of SHIFT 49", x.count(10), 0);
        Towns.hours(x, 3);
        due.is("THE HOUR", x.count(7), 199);
        due.is("HOT in SHIFT 49", x.drew(0, 49, 2), 3);
        due.is("HOT of the WELL", x.wellOf(0, 6), 3);
        due.is("HOT of all", x.count(10), 3);
        due.is("HOT less by that", x.voids(0), 3);
    }

    /** Draws 600 and sells so many in SHIFT 0; PRICE in SHIFT 1. */
    private static int priceBehind(int sold) {
        OilTown x = Towns.oneCell(1, 600, 0);
        for (int k = 0; k < 10; k++) {
            x.drill(0, 0, 60);
        }
        x.hour();
        if (sold > 0) {
            x.sell(0, sold);
        }
        Towns.hours(x, 3);
        return x.price(1);
    }

    /** "100 less a fifth (divided down) of what was sold in the SHIFT ahead". */
    private static void priceFallsByFifths() {
        int[] sold = {0, 1, 4, 5, 9, 10, 99, 100};
        int[] price = {100, 100, 100, 99, 99, 98, 81, 80};
        for (int i = 0; i < sold.length; i++) {
            due.is("PRICE behind " + sold[i], priceBehind(sold[i]), price[i]);
        }
    }

    /** "4 at least". */
    private static void priceIsFourAtLeast() {
        int[] sold = {474, 475, 479, 480, 484, 485, 500, 600};
        int[] price = {6, 5, 5, 4, 4, 4, 4, 4};
        for (int i = 0; i < sold.length; i++) {
            due.is("PRICE behind " + sold[i], priceBehind(sold[i]), price[i]);
        }
    }

    /** "100 in SHIFT 0". */
    private static void priceOfShiftZero() {
        OilTown x = Towns.oneCell(2, 600, 0);
        x.drill(0, 0, 60);
        x.hour();
        due.is("sell", x.sell(0, 50), 5000);
        due.is("what is sold in it does not count", x.price(0), 100);
        due.is("sell", x.sell(0, 10), 1000);
        Towns.hours(x, 3);
        due.is("SHIFT 0", x.price(0), 100);
        due.is("SHIFT 1: both sales", x.price(1), 88);
        due.is("n times PRICE", x.sell(0, 3), 264);
        due.is("paid", x.told(0, 2), 6264);
        Towns.hours(x, 4);
        due.is("SHIFT 2: 3 by 5 is 0", x.price(2), 100);
        due.is("SHIFT 1 as it was", x.price(1), 88);
    }

    /** "The greatest near, apart of 0 to 9 under which a PERSON could DRILL in a CELL". */
    private static void letsFromNoneToNine() {
        OilTown x = lane(6);
        for (int c = 0; c < 5; c++) {
            due.is("near in CELL " + c, x.lets(0, c, 0), 5 - c);
            due.is("apart without WELLS", x.lets(0, c, 1), 9);
        }
        x.drill(0, 0, 1);
        for (int c = 0; c < 5; c++) {
            due.is("apart in CELL " + c, x.lets(0, c, 1), c);
        }
        due.is("it does not HOLD the LOT", x.lets(0, 5, 0), NONE);
        due.is("it does not HOLD the LOT", x.lets(0, 5, 1), NONE);
        x.lay(5, 0);
        due.is("in a LOT alone", x.lets(0, 0, 0), 9);
        x.lay(4, NONE);
        due.is("in no LOT", x.lets(0, 4, 0), NONE);
    }

    /** "all else as it is now"; "as if it told that number alone of that rule". */
    private static void letsAsIfToldAlone() {
        OilTown x = lane(6);
        x.drill(0, 0, 1);
        Due.orders(x, "near 3; apart 2;");
        due.is("near in CELL 1: apart is not kept", x.lets(0, 1, 0), NONE);
        due.is("near in CELL 2: both are kept", x.lets(0, 2, 0), 3);
        due.is("near in CELL 3: near alone is not", x.lets(0, 3, 0), 2);
        due.is("apart in CELL 1: apart alone is not", x.lets(0, 1, 1), 1);
        due.is("apart in CELL 3: near is not kept", x.lets(0, 3, 1), NONE);
        x.voids(0);
        due.is("apart in CELL 3: near is VOID", x.lets(0, 3, 1), 3);
        Due.orders(x, "near 9; apart 9; except 0;");
        due.is("excepted", x.lets(0, 4, 0), 9);
        due.is("excepted", x.lets(0, 0, 1), 9);
        due.is("excepted, and not its LOT", x.lets(0, 5, 0), NONE);
    }

    /** "(by THE SHIFT ..)". */
    private static void letsByTheShift() {
        OilTown x = lane(6);
        x.drill(0, 0, 1);
        Due.orders(x, "from 1 apart 9; from 2 except 0;");
        due.is("SHIFT 0", x.lets(0, 3, 0), 2);
        Towns.hours(x, 4);
        due.is("SHIFT 1", x.lets(0, 3, 0), NONE);
        Towns.hours(x, 4);
        due.is("SHIFT 2", x.lets(0, 3, 0), 9);
    }

    private static void letsChangesNothing() {
        OilTown x = lane(6);
        Due.orders(x, "near 3; apart 2;");
        x.lets(0, 2, 0);
        x.lets(0, 2, 1);
        due.is("near", x.line(0, 2), 3);
        due.is("apart", x.line(1, 2), 2);
        due.is("LINES", x.count(6), 2);
        due.is("WELLS", x.count(5), 0);
        due.is("why", x.why(0, 3), 2);
    }
}
