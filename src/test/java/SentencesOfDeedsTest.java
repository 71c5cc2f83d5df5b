/** Part 1 of the document, THE FIELD: the sentences on SHIFTS, PERSONS, LOTS, LEASES, WELLS and what is told of them. */
public final class SentencesOfDeedsTest {
    private static final int NONE = OilTown.NONE, BAD = OilTown.BAD, STATE = OilTown.STATE;
    private static final Due due = new Due("SentencesOfDeedsTest");

    public static void main(String[] args) {
        shiftsHaveFourHours();
        personsAreNumberedAsTheyCome();
        ownersAtFirst();
        leasesAreNumberedAsTheyCome();
        leaseEndsAtThatHour();
        leaseEndsAtTheLastHour();
        leaseThatIsDrilled();
        leaseOfAWellElsewhere();
        leaseThatEndsIsPassedOver();
        leastStamp();
        leastNumberOfStamp();
        ownerWithoutLeases();
        wellsAreNumberedAsTheyCome();
        wellsAreOpenAtFirst();
        willFromTheNextHourOn();
        eachWellHasItsOwn();
        salesOfEachPerson();
        layKeepsWhatWasDrawn();
        toldOfNoWells();
        toldAboveWhatCameUp();
        toldOfAllWells();
        fieldMayShrink();
        due.end();
    }

    /** "a SHIFT has 4 HOURS: the HOUR divided down by 4". */
    private static void shiftsHaveFourHours() {
        OilTown x = Towns.oneCell(1, 900, 0);
        x.drill(0, 0, 1);
        for (int hour = 0; hour < 9; hour++) {
            due.is("PRICE of THE SHIFT at HOUR " + hour, x.price(hour / 4), 100);
            due.is("of the next", x.price(hour / 4 + 1), BAD);
            due.is("came up", x.hour(), 1);
            due.is("the draw of HOUR " + hour, x.drew(0, hour / 4, 0), hour % 4 + 1);
        }
        due.is("SHIFT 0", x.drew(0, 0, 0), 4);
        due.is("SHIFT 1", x.drew(0, 1, 0), 4);
        due.is("SHIFT 2", x.drew(0, 2, 0), 1);
        due.is("SHIFT 3", x.drew(0, 3, 0), 0);
    }

    private static void personsAreNumberedAsTheyCome() {
        OilTown x = new OilTown();
        for (int p = 0; p < 6; p++) {
            due.is("not yet", x.told(p, 0), BAD);
            due.is("person()", x.person(), p);
            due.is("now", x.told(p, 0), 0);
        }
    }

    /** "Each LOT has an OWNER (a PERSON, or NONE, at first)". */
    private static void ownersAtFirst() {
        OilTown x = Due.withPersons(1);
        for (int l = 0; l < 8; l++) {
            due.is("at first", x.holds(l), NONE);
            due.is("who it was", x.owner(l, 0), NONE);
            due.is("now", x.holds(l), 0);
            due.is("who it was", x.owner(l, NONE), 0);
            due.is("nobody again", x.holds(l), NONE);
        }
    }

    private static void leasesAreNumberedAsTheyCome() {
        OilTown x = Due.withPersons(2);
        due.is("lease", x.lease(3, 1, 1, 999), 0);
        due.is("the same again", x.lease(3, 1, 1, 999), 1);
        due.is("lease", x.lease(0, 0, 199, 0), 2);
        due.is("leaseOf(2, 2)", x.leaseOf(2, 2), 199);
        due.is("leaseOf(1, 3)", x.leaseOf(1, 3), 999);
        due.is("leaseOf(3, 0)", x.leaseOf(3, 0), BAD);
    }

    /** "it ENDED, if THE HOUR is that HOUR or later". */
    private static void leaseEndsAtThatHour() {
        OilTown x = Due.withPersons(1);
        x.lease(0, 0, 1, 0);
        x.lease(1, 0, 2, 0);
        due.is("HOUR 0 of 1", x.leaseOf(0, 4), 0);
        due.is("it HOLDS", x.holds(0), 0);
        x.hour();
        due.is("HOUR 1 of 1", x.leaseOf(0, 4), 1);
        due.is("it does not HOLD", x.holds(0), NONE);
        due.is("HOUR 1 of 2", x.leaseOf(1, 4), 0);
        x.hour();
        due.is("HOUR 2 of 2", x.leaseOf(1, 4), 1);
        due.is("HOUR 2 of 1", x.leaseOf(0, 4), 1);
        due.is("a LEASE for an HOUR that is now", x.lease(2, 0, 2, 0), 2);
        due.is("it ENDED", x.leaseOf(2, 4), 1);
        due.is("a LEASE for the next HOUR", x.lease(2, 0, 3, 0), 3);
        due.is("it did not", x.leaseOf(3, 4), 0);
    }

    private static void leaseEndsAtTheLastHour() {
        OilTown x = Due.withPersons(1);
        x.lease(0, 0, 199, 0);
        Towns.hours(x, 198);
        due.is("HOUR 198", x.holds(0), 0);
        x.hour();
        due.is("HOUR 199", x.holds(0), NONE);
    }

    /** "and that PERSON has no WELL on that LOT". */
    private static void leaseThatIsDrilled() {
        OilTown x = Due.withPersons(2);
        x.lay(0, 0);
        x.lay(8, 0);
        x.lease(0, 0, 1, 0);
        due.is("drill", x.drill(0, 8, 0), 0);
        x.open(0, false);
        Towns.hours(x, 5);
        due.is("a WELL, shut and of no WILL", x.leaseOf(0, 4), 0);
        due.is("it HOLDS", x.holds(0), 0);
        x.lay(8, 1);
        due.is("the WELL's CELL is of another LOT", x.leaseOf(0, 4), 1);
        x.lay(8, NONE);
        due.is("the WELL's CELL is of no LOT", x.leaseOf(0, 4), 1);
        x.lay(8, 0);
        due.is("it is of that LOT", x.leaseOf(0, 4), 0);
    }

    private static void leaseOfAWellElsewhere() {
        OilTown x = Due.withPersons(2);
        x.lay(0, 0);
        x.lay(1, 1);
        x.owner(0, 1);
        x.owner(1, 0);
        x.drill(1, 0, 0);
        x.drill(0, 1, 0);
        x.lease(0, 0, 1, 0);
        due.is("it HOLDS", x.holds(0), 0);
        x.hour();
        due.is("another's WELL there, its own elsewhere", x.leaseOf(0, 4), 1);
        due.is("the OWNER", x.holds(0), 1);
    }

    /** "of LEASES of it that did not END, the one with the least STAMP". */
    private static void leaseThatEndsIsPassedOver() {
        OilTown x = Due.withPersons(4);
        x.owner(0, 3);
        x.lease(0, 0, 1, 1);
        x.lease(0, 1, 2, 2);
        x.lease(0, 2, 3, 3);
        int[] holder = {0, 1, 2, 3, 3};
        for (int hour = 0; hour < 5; hour++) {
            due.is("HOUR " + hour, x.holds(0), holder[hour]);
            x.hour();
        }
    }

    private static void leastStamp() {
        OilTown x = Due.withPersons(4);
        x.owner(0, 3);
        x.lease(0, 0, 9, 999);
        due.is("999, and the OWNER", x.holds(0), 0);
        x.lease(0, 1, 9, 998);
        due.is("998", x.holds(0), 1);
        x.lease(0, 2, 9, 0);
        due.is("0", x.holds(0), 2);
        x.lease(0, 0, 9, 1);
        due.is("0 still", x.holds(0), 2);
        x.lease(1, 0, 9, 0);
        due.is("another LOT's", x.holds(0), 2);
        due.is("that LOT", x.holds(1), 0);
    }

    /** "of several the least number". */
    private static void leastNumberOfStamp() {
        OilTown x = Due.withPersons(3);
        x.lease(0, 2, 1, 0);
        x.lease(0, 1, 9, 0);
        x.lease(0, 0, 9, 0);
        due.is("LEASE 0", x.holds(0), 2);
        x.hour();
        due.is("LEASE 1", x.holds(0), 1);
    }

    /** "without any the OWNER". */
    private static void ownerWithoutLeases() {
        OilTown x = Due.withPersons(2);
        x.lease(0, 0, 1, 0);
        x.hour();
        due.is("neither", x.holds(0), NONE);
        x.owner(0, 1);
        due.is("the OWNER", x.holds(0), 1);
        x.lease(0, 0, 9, 0);
        due.is("the LEASE", x.holds(0), 0);
        due.is("the OWNER is told all the same", x.owner(0, 0), 1);
    }

    private static void wellsAreNumberedAsTheyCome() {
        OilTown x = Towns.oneCell(2, 0, 0);
        due.is("drill", x.drill(0, 0, 60), 0);
        due.is("refused", x.drill(1, 0, 60), STATE);
        due.is("two in one CELL", x.drill(0, 0, 0), 1);
        due.is("its WILL", x.wellOf(1, 2), 0);
        due.is("wellOf(2, 0)", x.wellOf(2, 0), BAD);
    }

    private static void wellsAreOpenAtFirst() {
        OilTown x = Towns.oneCell(1, 9, 0);
        x.drill(0, 0, 5);
        due.is("open", x.wellOf(0, 3), 1);
        due.is("it draws", x.hour(), 5);
        due.is("whether it was open", x.open(0, false), 1);
        due.is("shut", x.wellOf(0, 3), 0);
        due.is("it draws none", x.hour(), 0);
        x.field(1, 1);
        x.lay(0, 0);
        x.owner(0, 0);
        x.drill(0, 0, 5);
        due.is("open, where a shut one was", x.wellOf(0, 3), 1);
    }

    private static void willFromTheNextHourOn() {
        OilTown x = Towns.oneCell(1, 200, 0);
        x.drill(0, 0, 60);
        due.is("60", x.hour(), 60);
        due.is("what it was", x.will(0, 0), 60);
        due.is("0", x.hour(), 0);
        due.is("what it was", x.will(0, 1), 0);
        due.is("1", x.hour(), 1);
        due.is("all that it DREW", x.wellOf(0, 4), 61);
    }

    /** WILL and open of a WELL are that WELL's alone. */
    private static void eachWellHasItsOwn() {
        OilTown x = Towns.oneCell(1, 999, 0);
        for (int k = 0; k < 3; k++) {
            x.drill(0, 0, 10 + k);
        }
        due.is("will(1, 5)", x.will(1, 5), 11);
        due.is("open(2, false)", x.open(2, false), 1);
        due.is("open(2, false)", x.open(2, false), 0);
        due.is("open(1, true)", x.open(1, true), 1);
        int[] will = {10, 5, 12};
        int[] open = {1, 1, 0};
        for (int k = 0; k < 3; k++) {
            due.is("WILL of WELL " + k, x.wellOf(k, 2), will[k]);
            due.is("open: WELL " + k, x.wellOf(k, 3), open[k]);
        }
        due.is("hour", x.hour(), 15);
        due.is("will(2, 1)", x.will(2, 1), 12);
        due.is("open(2, true)", x.open(2, true), 0);
        due.is("hour", x.hour(), 16);
        Towns.hours(x, 3);
        int[] first = {40, 20, 3};
        for (int k = 0; k < 3; k++) {
            due.is("SHIFT 0 of WELL " + k, x.drew(k, 0, 0), first[k]);
            due.is("SHIFT 1 of WELL " + k, x.drew(k, 1, 0), first[k] / 4 + (k == 2 ? 1 : 0));
        }
    }

    /** A sale is of one PERSON's TANK; "PRICE .. of what was sold" is of all. */
    private static void salesOfEachPerson() {
        OilTown x = Due.withPersons(6);
        x.field(6, 1);
        for (int p = 0; p < 6; p++) {
            x.lay(p, p);
            x.owner(p, p);
            x.cell(p, 0, 0, 0, 500);
            x.drill(p, p, 10 + p);
        }
        Towns.hours(x, 3);
        for (int p = 0; p < 6; p++) {
            due.is("sell of " + p, x.sell(p, 5 + p), 100 * (5 + p));
        }
        for (int p = 0; p < 6; p++) {
            due.is("TANK of " + p, x.told(p, 0), 25 + 2 * p);
            due.is("sold of " + p, x.told(p, 1), 5 + p);
            due.is("paid to " + p, x.told(p, 2), 100 * (5 + p));
        }
        due.is("OIL in TANKS", x.count(8), 180);
        due.is("sold", x.count(9), 45);
        x.hour();
        due.is("PRICE behind 45", x.price(1), 91);
        due.is("all of a TANK", x.sell(5, 50), 4550);
        due.is("TANK of 5", x.told(5, 0), 0);
        due.is("paid to 5", x.told(5, 2), 5550);
        due.is("TANK of 0", x.told(0, 0), 35);
        due.is("sold", x.count(9), 95);
    }

    private static void layKeepsWhatWasDrawn() {
        OilTown x = Towns.oneCell(1, 200, 0);
        x.drill(0, 0, 10);
        x.hour();
        x.lay(0, 7);
        x.hour();
        due.is("its OIL stays of whom it is", x.wellOf(0, 10), 20);
        due.is("none of its LOT now", x.wellOf(0, 17), 0);
        due.is("of the PERSON's WELLS too", x.told(0, 10), 20);
    }

    private static void toldOfNoWells() {
        OilTown x = Due.withPersons(1);
        for (int what : new int[] {0, 1, 2, 3, 4, 5, 6, 10, 11, 12, 13, 14, 15, 16, 17, 18}) {
            due.is("told(0, " + what + ")", x.told(0, what), 0);
        }
        for (int what : new int[] {-1, 7, 8, 9, 19}) {
            due.is("told(0, " + what + ")", x.told(0, what), BAD);
        }
    }

    /** "how many it sold more than came up without HOT ones (0 at least)". */
    private static void toldAboveWhatCameUp() {
        OilTown x = Towns.oneCell(1, 200, 0);
        x.drill(0, 0, 25);
        Towns.hours(x, 2);
        Due.orders(x, "each 30;");
        due.is("HOT: 50 less 30", x.told(0, 5), 20);
        due.is("nothing sold", x.told(0, 6), 0);
        x.sell(0, 29);
        due.is("29", x.told(0, 6), 0);
        x.sell(0, 1);
        due.is("30", x.told(0, 6), 0);
        x.sell(0, 1);
        due.is("31", x.told(0, 6), 1);
        x.sell(0, 19);
        due.is("50", x.told(0, 6), 20);
        Due.orders(x, "shut;");
        due.is("all are HOT", x.told(0, 6), 50);
        Due.orders(x, "each 49;");
        due.is("one is HOT", x.told(0, 6), 1);
        Due.orders(x, "each 50;");
        due.is("none is HOT", x.told(0, 6), 0);
    }

    private static void toldOfAllWells() {
        OilTown x = Due.withPersons(2);
        for (int c = 0; c < 9; c++) {
            x.cell(c, 0, 0, 0, 100);
            x.lay(c, c % 2);
        }
        x.owner(0, 0);
        x.owner(1, 1);
        x.drill(0, 0, 1);
        x.drill(1, 1, 2);
        x.drill(0, 2, 4);
        x.hour();
        due.is("WELLS of 0", x.told(0, 3), 2);
        due.is("WELLS of 1", x.told(1, 3), 1);
        due.is("OIL of 0", x.told(0, 4), 5);
        due.is("OIL of 1", x.told(1, 4), 2);
        due.is("TANK of 0", x.told(0, 0), 5);
        due.is("TANK of 1", x.told(1, 0), 2);
        Due.orders(x, "each 1;");
        due.is("HOT of 0", x.told(0, 5), 3);
        due.is("HOT of 1", x.told(1, 5), 1);
        due.is("HOT of all", x.count(10), 4);
    }

    private static void fieldMayShrink() {
        OilTown x = Due.withPersons(1);
        x.field(6, 6);
        x.cell(35, 9, 9, 9, 9);
        x.lay(35, 3);
        x.field(1, 1);
        due.is("count(0)", x.count(0), 1);
        due.is("cellOf(1, 0)", x.cellOf(1, 0), BAD);
        due.is("cell(1, ..)", x.cell(1, 0, 0, 0, 0), BAD);
        due.is("lay(1, 0)", x.lay(1, 0), BAD);
        due.is("count(1)", x.count(1), 0);
        x.field(6, 6);
        int[] first = {5, 0, 0, 0, NONE, 0};
        for (int what = 0; what < 6; what++) {
            due.is("as at first: cellOf(35, " + what + ")", x.cellOf(35, what), first[what]);
        }
        due.is("as at first", x.cellOf(35, 13) + x.cellOf(35, 18), 0);
    }
}
