/** What is empty, what is full, and that a call which finds no room changes nothing. */
public final class FullAndEmptyTest {
    private static final int NONE = OilTown.NONE, BAD = OilTown.BAD, STATE = OilTown.STATE, FULL = OilTown.FULL;
    private static final Due due = new Due("FullAndEmptyTest");
    private static final Edges edges = new Edges(due);
    private static final Towns.Maker brim = Towns::brim;

    public static void main(String[] args) {
        theBrimIsFull();
        fullPersons();
        fullLeases();
        fullWells();
        fullFields();
        fullTape();
        fullHours();
        fullLines();
        fullOfEveryNumber();
        fullFieldStandsAgain();
        fullLargestFieldStandsAgain();
        roomAgainBehindField();
        roomAgainBehindStand();
        newObjectHasNobody();
        newObjectHasNoNumbers();
        newObjectHasNothingToRead();
        newObjectHasAnEmptyField();
        emptyText();
        emptySheet();
        emptyTank();
        objectsAreApart();
        due.end();
    }

    private static void theBrimIsFull() {
        int[] want = {12, -1, 0, 6, 12, 10, 12, 199, -1, 21, -1, 3, 160, 72};
        OilTown x = brim.make();
        for (int what : new int[] {0, 2, 3, 4, 5, 6, 7, 9, 11, 12, 13}) {
            due.is("brim: count(" + what + ")", x.count(what), want[what]);
        }
    }

    private static void full(String call, Edges.Call asked) {
        edges.refused(call, brim, FULL, asked, 0);
    }

    /** "PERSONS (6) are numbered as they come." */
    private static void fullPersons() {
        OilTown x = Due.withPersons(5);
        due.is("the sixth", x.person(), 5);
        due.is("the seventh", x.person(), FULL);
        due.is("count(3)", x.count(3), 6);
        full("person()", (y, v) -> y.person());
    }

    /** "LEASES (12) are numbered as they come". */
    private static void fullLeases() {
        OilTown x = Due.withPersons(1);
        for (int k = 0; k < 12; k++) {
            due.is("lease", x.lease(k % 8, 0, 199 - k, k), k);
        }
        due.is("the 13th", x.lease(0, 0, 1, 0), FULL);
        due.is("the 12th is what it was", x.leaseOf(11, 3), 11);
        full("lease()", (y, v) -> y.lease(0, 0, 1, 0));
    }

    /** "WELLS (10) are numbered as they come". */
    private static void fullWells() {
        OilTown x = Towns.oneCell(1, 0, 0);
        for (int k = 0; k < 10; k++) {
            due.is("drill", x.drill(0, 0, 60 - k), k);
        }
        due.is("the 11th", x.drill(0, 0, 0), FULL);
        due.is("the tenth is what it was", x.wellOf(9, 2), 51);
        full("drill()", (y, v) -> y.drill(0, 0, 5));
        due.is("a full town may be let all the same", brim.make().why(0, 0), 0);
    }

    /** "FIELDS (3)". */
    private static void fullFields() {
        OilTown x = new OilTown();
        for (int k = 0; k < 3; k++) {
            due.is("keep", x.keep(), k);
            x.hour();
        }
        due.is("the fourth", x.keep(), FULL);
        x.stand(2);
        due.is("the third is what it was", x.count(7), 2);
        full("keep()", (y, v) -> y.keep());
        due.is("stand(2)", brim.make().stand(2), 1);
        due.is("stand(3)", brim.make().stand(3), BAD);
    }

    /** "THE TAPE has 160 bytes"; "FULL: more than 160". */
    private static void fullTape() {
        full("feed()", (y, v) -> y.feed(0));
        OilTown x = new OilTown();
        for (int n = 8; n <= 160; n += 8) {
            due.is("feed", x.feed(-1), n);
        }
        due.is("168", x.feed(-1), FULL);
        for (int n = 159; n >= 153; n--) {
            x.end(n);
            due.is(n + " and 8", x.feed(-1), FULL);
            due.is("it has", x.count(12), n);
        }
        x.end(152);
        due.is("152 and 8", x.feed(-1), 160);
        due.is("end(160)", x.end(160), 160);
        due.is("end(161)", x.end(161), BAD);
    }

    /** "HOURS up to 199"; "FULL: THE HOUR is 199". */
    private static void fullHours() {
        OilTown x = Towns.oneCell(1, 999, 0);
        x.drill(0, 0, 1);
        Towns.hours(x, 198);
        due.is("the last", x.hour(), 1);
        due.is("THE HOUR", x.count(7), 199);
        due.is("no more", x.hour(), FULL);
        due.is("the last SHIFT: 196 to 198", x.drew(0, 49, 0), 3);
        due.is("all", x.wellOf(0, 4), 199);
        full("hour()", (y, v) -> y.hour());
        due.is("a sale in the last SHIFT", x.sell(0, 5), 500);
        due.is("PRICE there", x.price(49), 100);
        due.is("PRICE behind it", x.price(50), BAD);
        due.is("the sale does not show", x.told(0, 0), 194);
    }

    /** "4 the 13th LINE". */
    private static void fullLines() {
        OilTown x = new OilTown();
        due.is("12 LINES", Due.orders(x, Towns.shuts(12)), 12);
        due.is("line(11, 0)", x.line(11, 0), 4);
        due.is("line(11, 1)", x.line(11, 1), 11);
        due.is("line(12, 1)", x.line(12, 1), BAD);
        due.is("the 12th is found VOID", x.voids(11), 0);
        due.is("12 others", Due.orders(x, Towns.shuts(11) + "from 49 each 999;"), 12);
        int[] want = {2, 49, 999, 0};
        for (int what = 0; what < 4; what++) {
            due.is("line(11, " + what + ")", x.line(11, what), want[what]);
        }
        due.is("13 LINES", Due.orders(x, Towns.shuts(13)), -132);
        due.is("FAULT", x.fault(), 4);
        due.is("LINES stay", x.count(6), 12);
    }

    /** Each PERSON, LEASE, WELL and LINE of a full town has numbers of its own. */
    private static void fullOfEveryNumber() {
        OilTown x = Due.withPersons(6);
        x.field(6, 6);
        for (int c = 0; c < 10; c++) {
            x.lay(3 * c, c % 8);
            x.cell(3 * c, 0, 0, 0, 100);
        }
        for (int l = 0; l < 8; l++) {
            x.owner(l, (l + 1) % 6);
        }
        for (int k = 0; k < 10; k++) {
            x.drill((k % 8 + 1) % 6, 3 * k, 5 + k);
        }
        for (int k = 0; k < 12; k++) {
            x.lease((k + 3) % 8, (k + 2) % 6, 100 + k, 50 * k);
        }
        due.is("came up", x.hour(), 95);
        for (int k = 0; k < 10; k++) {
            int[] want = {(k % 8 + 1) % 6, 3 * k, 5 + k, 1, 5 + k, 0};
            for (int what = 0; what < want.length; what++) {
                due.is("wellOf(" + k + ", " + what + ")", x.wellOf(k, what), want[what]);
            }
            for (int l = 0; l <= 8; l++) {
                due.is("wellOf(" + k + ", 1" + l + ")", x.wellOf(k, 10 + l), l == k % 8 ? 5 + k : 0);
            }
            due.is("drew(" + k + ", 0, 0)", x.drew(k, 0, 0), 5 + k);
            due.is("drew(" + k + ", 1, 0)", x.drew(k, 1, 0), 0);
        }
        for (int k = 0; k < 12; k++) {
            int[] want = {(k + 3) % 8, (k + 2) % 6, 100 + k, 50 * k, 0};
            for (int what = 0; what < want.length; what++) {
                due.is("leaseOf(" + k + ", " + what + ")", x.leaseOf(k, what), want[what]);
            }
        }
    }

    private static void fullFieldStandsAgain() {
        edges.unchanged("another full field, then stand", brim, x -> {
            x.field(1, 1);
            x.lay(0, 5);
            x.owner(5, 4);
            for (int k = 0; k < 12; k++) {
                x.drill(4, 0, 60);
                x.lease(2, 5 - k % 6, 50 + k, k);
            }
            x.stand(2);
        });
        edges.unchanged("another that stood, then stand", brim, x -> {
            x.stand(0);
            x.hour();
            x.stand(2);
        });
    }

    private static void fullLargestFieldStandsAgain() {
        OilTown x = new OilTown();
        x.field(6, 6);
        for (int c = 0; c < 36; c++) {
            x.lay(c, c % 8);
            x.cell(c, c % 10, c, 36 + c, 72 + c);
        }
        x.cell(34, 1, 2, 3, 4);
        x.keep();
        x.field(6, 6);
        x.lay(35, 7);
        x.stand(0);
        int[] last = {5, 35, 71, 107, 3, 213};
        int[] ahead = {1, 2, 3, 4, 2, 9};
        for (int what = 0; what < 6; what++) {
            due.is("cellOf(35, " + what + ")", x.cellOf(35, what), last[what]);
            due.is("cellOf(34, " + what + ")", x.cellOf(34, what), ahead[what]);
        }
        due.is("OIL of LOT 3", x.cellOf(35, 13), 107);
        due.is("OIL of LOT 2", x.cellOf(34, 12), 4);
    }

    private static void roomAgainBehindField() {
        OilTown x = brim.make();
        due.is("field", x.field(1, 1), 1);
        due.is("hour", x.hour(), 0);
        due.is("lease", x.lease(0, 0, 1, 0), 0);
        x.lay(0, 0);
        x.owner(0, 0);
        due.is("it holds", x.holds(0), 0);
        due.is("drill", x.drill(0, 0, 1), 0);
        due.is("no more PERSONS", x.person(), FULL);
        due.is("no more FIELDS", x.keep(), FULL);
        due.is("THE TAPE stays", x.feed(0), FULL);
        due.is("LINES stay", x.count(6), 12);
    }

    private static void roomAgainBehindStand() {
        OilTown x = brim.make();
        x.stand(1);
        due.is("THE HOUR", x.count(7), 100);
        due.is("ten WELLS draw 1, 2 or 3", x.hour(), 19);
        due.is("LEASES are full still", x.lease(0, 0, 1, 0), FULL);
        x = Towns.oneCell(1, 0, 0);
        x.keep();
        for (int k = 0; k < 10; k++) {
            x.drill(0, 0, 1);
        }
        due.is("WELLS are full", x.drill(0, 0, 1), FULL);
        x.stand(0);
        due.is("none stands", x.drill(0, 0, 1), 0);
    }

    /** "no PERSONS, LEASES, WELLS, LINES, FIELDS". */
    private static void newObjectHasNobody() {
        for (int what : new int[] {3, 4, 5, 6, 7, 8, 9, 10, 11, 12}) {
            due.is("new: count(" + what + ")", new OilTown().count(what), 0);
        }
        due.is("new: count(13)", new OilTown().count(13), NONE);
        due.is("new: owner", new OilTown().owner(0, 0), -5);
        due.is("new: owner, nobody", new OilTown().owner(0, NONE), NONE);
        due.is("new: lease", new OilTown().lease(0, 0, 1, 0), BAD);
        due.is("new: drill", new OilTown().drill(0, 0, 0), BAD);
        due.is("new: why", new OilTown().why(0, 0), BAD);
        due.is("new: lets", new OilTown().lets(0, 0, 0), BAD);
        due.is("new: spot", new OilTown().spot(0, 0), -5);
        due.is("new: sell", new OilTown().sell(0, 1), BAD);
        due.is("new: told", new OilTown().told(0, 0), BAD);
    }

    private static void newObjectHasNoNumbers() {
        due.is("new: leaseOf", new OilTown().leaseOf(0, 0), BAD);
        due.is("new: will", new OilTown().will(0, 0), BAD);
        due.is("new: open", new OilTown().open(0, false), BAD);
        due.is("new: wellOf", new OilTown().wellOf(0, 0), BAD);
        due.is("new: drew", new OilTown().drew(0, 0, 0), BAD);
        due.is("new: line", new OilTown().line(0, 0), BAD);
        due.is("new: voids", new OilTown().voids(0), -100000);
        due.is("new: stand", new OilTown().stand(0), BAD);
        due.is("new: gain", new OilTown().gain(1, 0, 0, 1, 0, 0), -100000);
        due.is("new: steady", new OilTown().steady(1, 0, 0, 1, 0), BAD);
        due.is("new: must", new OilTown().must(1, 0, 0, 1, 0), BAD);
    }

    /** "SHEETS have nothing"; the tape is empty, no text was read. */
    private static void newObjectHasNothingToRead() {
        for (int k = 0; k < 4; k++) {
            for (int lane = 0; lane < 3; lane++) {
                due.is("new: scan", new OilTown().scan(k, lane, 0), -11);
            }
            due.is("new: write", new OilTown().write(k, 0, 0), -11);
        }
        due.is("new: end(0)", new OilTown().end(0), 0);
        due.is("new: end(1)", new OilTown().end(1), BAD);
        due.is("new: orders", new OilTown().orders(), 0);
        due.is("new: fault", new OilTown().fault(), 0);
    }

    /** "3 by 3 at first"; "at first 5, 0, 0, 0, NONE". */
    private static void newObjectHasAnEmptyField() {
        OilTown x = new OilTown();
        due.is("new: count(0)", x.count(0), 9);
        due.is("new: cellOf(8, 0)", x.cellOf(8, 0), 5);
        due.is("new: cellOf(9, 0)", x.cellOf(9, 0), BAD);
        due.is("new: count(1)", x.count(1), 0);
        due.is("new: count(2)", x.count(2), 0);
        due.is("new: price(0)", x.price(0), 100);
        due.is("new: price(1)", x.price(1), BAD);
        due.is("new: holds(7)", x.holds(7), NONE);
        due.is("new: hour", x.hour(), 0);
        x.cell(1, 8, 0, 0, 100);
        x.cell(0, 8, 0, 0, 0);
        x.hour();
        due.is("cell 1 lies beside cell 0", x.cellOf(0, 3), 20);
        due.is("cell 1 lies above cell 4, of SAND 5", x.cellOf(4, 3), 12);
        due.is("cell 3 is in the next row", x.cellOf(3, 3), 0);
        due.is("FIELD as it is at first", newAndKept().cellOf(8, 0), 5);
    }

    private static OilTown newAndKept() {
        OilTown x = new OilTown();
        x.keep();
        x.field(6, 6);
        x.cell(8, 1, 1, 1, 1);
        x.stand(0);
        return x;
    }

    private static void emptyText() {
        OilTown x = new OilTown();
        Due.orders(x, "near 1; apart");
        due.is("a FAULT", x.fault(), 2);
        due.is("an empty text", x.orders(), 0);
        due.is("no FAULT", x.fault(), 0);
        Due.orders(x, "near 1;");
        due.is("blanks alone", Due.orders(x, "        "), 0);
        due.is("tell no LINE, in place of those there were", x.count(6), 0);
        due.is("line(0, 0)", x.line(0, 0), BAD);
    }

    /** "with 0 to 72 CELLS, or nothing". */
    private static void emptySheet() {
        OilTown x = new OilTown();
        due.is("of 0 CELLS", x.sheet(0, 1, 0), 1);
        due.is("count(13)", x.count(13), 0);
        due.is("write", x.write(0, 0, 0), -12);
        due.is("scan", x.scan(0, 1, 0), -12);
        due.is("scan, another lane", x.scan(0, 0, 0), -13);
        due.is("the next has nothing", x.scan(1, 0, 0), -11);
    }

    private static void emptyTank() {
        OilTown x = Towns.oneCell(1, 1, 0);
        x.drill(0, 0, 60);
        due.is("empty", x.sell(0, 1), STATE);
        x.hour();
        due.is("one", x.sell(0, 1), 100);
        due.is("empty again", x.sell(0, 1), STATE);
    }

    private static void objectsAreApart() {
        OilTown x = Towns.busy();
        OilTown y = new OilTown();
        Towns.brim();
        due.is("what another object has", y.count(3), 0);
        due.is("what another object has", y.count(12), 0);
        due.is("what another object has", x.count(3), 4);
        due.is("what another object has", x.count(12), 5);
    }
}
