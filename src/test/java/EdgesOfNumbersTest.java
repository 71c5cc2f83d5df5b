/**
 * Promises 2 to 37: of each number of each call the last that is let and the first that is refused, on both sides,
 * and that what is refused changes nothing.
 */
public final class EdgesOfNumbersTest {
    private static final int NONE = OilTown.NONE, BAD = OilTown.BAD, STATE = OilTown.STATE;
    private static final long ANY = Edges.ANY;
    private static final Due due = new Due("EdgesOfNumbersTest");
    private static final Edges edges = new Edges(due);
    private static final Towns.Maker busy = Towns::busy;
    private static final Towns.Maker rich = EdgesOfNumbersTest::richTown;
    private static final Towns.Maker two = EdgesOfNumbersTest::townOfTwo;

    public static void main(String[] args) {
        theTownsAreAsTheyAreMeant();
        field();
        cell();
        lay();
        cellOf();
        owner();
        lease();
        leaseOf();
        holds();
        told();
        drill();
        why();
        will();
        open();
        wellOf();
        drew();
        sell();
        price();
        end();
        line();
        voids();
        lets();
        spot();
        gain();
        gainOfFewPersons();
        steady();
        must();
        stand();
        sheet();
        write();
        scan();
        count();
        due.end();
    }

    /** A tank with more than may be sold at once. */
    private static OilTown richTown() {
        OilTown x = Towns.oneCell(1, 999, 0);
        for (int k = 0; k < 10; k++) {
            x.drill(0, 0, 60);
        }
        Towns.hours(x, 2);
        x.cell(0, 0, 0, 0, 999);
        Towns.hours(x, 2);
        return x;
    }

    private static OilTown townOfTwo() {
        OilTown x = Due.withPersons(2);
        x.spot(0, 0);
        x.spot(1, 8);
        return x;
    }

    private static void bad(String call, int least, long atLeast, int most, long atMost, Edges.Call asked) {
        edges.of(call, busy, least, atLeast, most, atMost, BAD, asked);
    }

    private static void theTownsAreAsTheyAreMeant() {
        int[] want = {12, 0, 0, 4, 2, 3, 6, 9, 0, 50, 0, 1, 5, 5};
        for (int what : new int[] {0, 3, 4, 5, 6, 7, 9, 11, 12, 13}) {
            due.is("busy: count(" + what + ")", busy.make().count(what), want[what]);
        }
        due.is("busy: fault()", busy.make().fault(), 3);
        due.is("rich: told(0, 0)", rich.make().told(0, 0), 1998);
    }

    private static void field() {
        bad("field's w", 1, 1, 6, 1, (x, v) -> x.field(v, 3));
        bad("field's h", 1, 1, 6, 1, (x, v) -> x.field(3, v));
    }

    private static void cell() {
        bad("cell's CELL", 0, 1, 11, 1, (x, v) -> x.cell(v, 1, 2, 3, 4));
        bad("cell's SAND", 0, 1, 9, 1, (x, v) -> x.cell(11, v, 2, 3, 4));
        bad("cell's GAS", 0, 1, 999, 1, (x, v) -> x.cell(11, 1, v, 3, 4));
        bad("cell's WATER", 0, 1, 999, 1, (x, v) -> x.cell(11, 1, 2, v, 4));
        bad("cell's OIL", 0, 1, 999, 1, (x, v) -> x.cell(11, 1, 2, 3, v));
    }

    private static void lay() {
        bad("lay's CELL", 0, 0, 11, NONE, (x, v) -> x.lay(v, 3));
        bad("lay's LOT", 0, 7, 7, 7, (x, v) -> x.lay(8, v));
        due.is("lay of no LOT", busy.make().lay(8, NONE), 7);
        edges.refused("lay's LOT, next to NONE", busy, BAD, (x, v) -> x.lay(8, v), NONE - 1, NONE + 1, -2);
    }

    private static void cellOf() {
        bad("cellOf's CELL", 0, ANY, 11, ANY, (x, v) -> x.cellOf(v, 0));
        bad("cellOf's what", 0, ANY, 5, ANY, (x, v) -> x.cellOf(3, v));
        bad("cellOf's 10 and l", 10, ANY, 18, ANY, (x, v) -> x.cellOf(3, v));
    }

    private static void owner() {
        edges.of("owner's LOT", busy, 0, 0, 7, 2, -5, (x, v) -> x.owner(v, 1));
        edges.of("owner's PERSON", busy, 0, 2, 3, 2, -5, (x, v) -> x.owner(7, v));
        due.is("owner: nobody", busy.make().owner(7, NONE), 2);
        edges.refused("owner's PERSON, next to NONE", busy, -5, (x, v) -> x.owner(7, v), NONE - 1, NONE + 1, -2);
        edges.refused("owner's LOT, of nobody", busy, -5, (x, v) -> x.owner(v, NONE), -1, 8);
    }

    private static void lease() {
        bad("lease's LOT", 0, 2, 7, 2, (x, v) -> x.lease(v, 1, 5, 5));
        bad("lease's PERSON", 0, 2, 3, 2, (x, v) -> x.lease(0, v, 5, 5));
        bad("lease's HOUR", 1, 2, 199, 2, (x, v) -> x.lease(0, 1, v, 5));
        bad("lease's STAMP", 0, 2, 999, 2, (x, v) -> x.lease(0, 1, 5, v));
        edges.refused("lease to nobody", busy, BAD, (x, v) -> x.lease(0, v, 5, 5), NONE);
        edges.refused("lease of no LOT", busy, BAD, (x, v) -> x.lease(v, 1, 5, 5), NONE);
    }

    private static void leaseOf() {
        bad("leaseOf's LEASE", 0, 1, 1, 7, (x, v) -> x.leaseOf(v, 0));
        bad("leaseOf's what", 0, 7, 4, 1, (x, v) -> x.leaseOf(1, v));
    }

    private static void holds() {
        bad("holds' LOT", 0, 0, 7, 2, (x, v) -> x.holds(v));
    }

    private static void told() {
        bad("told's PERSON", 0, ANY, 3, ANY, (x, v) -> x.told(v, 0));
        bad("told's what", 0, ANY, 6, ANY, (x, v) -> x.told(0, v));
        bad("told's 10 and l", 10, ANY, 18, ANY, (x, v) -> x.told(0, v));
    }

    private static void drill() {
        bad("drill's PERSON", 0, 3, 3, STATE, (x, v) -> x.drill(v, 1, 5));
        bad("drill's CELL", 0, STATE, 11, STATE, (x, v) -> x.drill(0, v, 5));
        bad("drill's WILL", 0, 3, 60, 3, (x, v) -> x.drill(0, 1, v));
    }

    private static void why() {
        bad("why's PERSON", 0, 0, 3, 1, (x, v) -> x.why(v, 1));
        bad("why's CELL", 0, 3, 11, 1, (x, v) -> x.why(0, v));
    }

    private static void will() {
        bad("will's WELL", 0, 20, 2, 25, (x, v) -> x.will(v, 5));
        bad("will's WILL", 0, 15, 60, 15, (x, v) -> x.will(1, v));
    }

    private static void open() {
        bad("open's WELL", 0, 1, 2, 1, (x, v) -> x.open(v, false));
        bad("open's WELL", 0, 1, 2, 1, (x, v) -> x.open(v, true));
    }

    private static void wellOf() {
        bad("wellOf's WELL", 0, 0, 2, 2, (x, v) -> x.wellOf(v, 0));
        bad("wellOf's what", 0, 2, 6, ANY, (x, v) -> x.wellOf(2, v));
        bad("wellOf's 10 and l", 10, ANY, 18, ANY, (x, v) -> x.wellOf(2, v));
    }

    private static void drew() {
        bad("drew's WELL", 0, ANY, 2, ANY, (x, v) -> x.drew(v, 0, 0));
        bad("drew's SHIFT", 0, ANY, 49, 0, (x, v) -> x.drew(0, v, 0));
        bad("drew's SHIFT, for LET", 0, 50, 49, 50, (x, v) -> x.drew(0, v, 1));
        bad("drew's SHIFT, for HOT", 0, ANY, 49, 0, (x, v) -> x.drew(0, v, 2));
        bad("drew's what", 0, ANY, 2, ANY, (x, v) -> x.drew(0, 0, v));
    }

    private static void sell() {
        edges.of("sell's number", rich, 1, 100, 999, 99900, BAD, (x, v) -> x.sell(0, v));
        bad("sell's PERSON", 0, ANY, 3, ANY, (x, v) -> x.sell(v, 15));
        Towns.Maker seven = EdgesOfNumbersTest::townWithSevenBarrels;
        due.is("sell of all that there is", seven.make().sell(0, 7), 700);
        edges.refused("sell of more than there is", seven, STATE, (x, v) -> x.sell(0, v), 8, 999);
        edges.refused("sell of an empty TANK", busy, STATE, (x, v) -> x.sell(1, v), 1, 999);
    }

    private static OilTown townWithSevenBarrels() {
        OilTown x = Towns.oneCell(1, 7, 0);
        x.drill(0, 0, 60);
        x.hour();
        return x;
    }

    private static void price() {
        bad("price's SHIFT", 0, 100, 2, ANY, (x, v) -> x.price(v));
    }

    private static void end() {
        bad("end's number", 0, 5, 5, 5, (x, v) -> x.end(v));
    }

    private static void line() {
        bad("line's LINE", 0, 1, 5, 0, (x, v) -> x.line(v, 0));
        bad("line's what", 0, 4, 3, 1, (x, v) -> x.line(3, v));
    }

    private static void voids() {
        edges.of("voids' LINE", busy, 0, 0, 5, 0, -100000, (x, v) -> x.voids(v));
        edges.refused("voids of what is VOID", busy, -100002, (x, v) -> x.voids(v), 3);
    }

    private static void lets() {
        bad("lets' PERSON", 0, 1, 3, NONE, (x, v) -> x.lets(v, 1, 1));
        bad("lets' CELL", 0, 0, 11, NONE, (x, v) -> x.lets(0, v, 1));
        bad("lets' rule", 0, 1, 1, 1, (x, v) -> x.lets(0, 1, v));
    }

    private static void spot() {
        edges.of("spot's PERSON", busy, 0, 0, 3, 9, -5, (x, v) -> x.spot(v, 1));
        edges.of("spot's CELL", busy, 0, 6, 11, 6, -5, (x, v) -> x.spot(2, v));
        edges.refused("spot: none", busy, -5, (x, v) -> x.spot(2, v), NONE);
    }

    private static void gain() {
        race("gain's n", 1, 4, (x, v) -> x.gain(v, 5, 5, 5, 1, 0));
        race("gain's WILL", 0, 60, (x, v) -> x.gain(3, v, 5, 5, 1, 0));
        race("gain's COST", 0, 999, (x, v) -> x.gain(3, 5, v, 5, 1, 0));
        race("gain's HOURS", 1, 24, (x, v) -> x.gain(3, 5, 5, v, 1, 0));
        race("gain's PERSON", 0, 2, (x, v) -> x.gain(3, 5, 5, 5, 1, v));
        for (int n = 1; n <= 4; n++) {
            int racers = n;
            race("gain's set, " + n + " racing", 0, (1 << n) - 1, (x, v) -> x.gain(racers, 5, 5, 5, v, 0));
        }
    }

    private static void race(String call, int least, int most, Edges.Call asked) {
        edges.of(call, busy, least, ANY, most, ANY, -100000, asked);
    }

    /** "BAD: also n above PERSONS". */
    private static void gainOfFewPersons() {
        edges.of("gain's n, of 2 PERSONS", two, 1, 0, 2, 0, -100000, (x, v) -> x.gain(v, 0, 0, 1, 0, 0));
        edges.of("steady's n, of 2 PERSONS", two, 1, 2, 2, 4, BAD, (x, v) -> x.steady(v, 0, 0, 1, 0));
        edges.of("must's n, of 2 PERSONS", two, 1, 0, 2, 0, BAD, (x, v) -> x.must(v, 0, 0, 1, 0));
        Towns.Maker nobody = OilTown::new;
        edges.refused("gain's n, of no PERSON", nobody, -100000, (x, v) -> x.gain(v, 0, 0, 1, 0, 0), 0, 1);
        edges.refused("steady's n, of no PERSON", nobody, BAD, (x, v) -> x.steady(v, 0, 0, 1, 0), 0, 1);
        edges.refused("must's n, of no PERSON", nobody, BAD, (x, v) -> x.must(v, 0, 0, 1, 0), 0, 1);
    }

    private static void steady() {
        bad("steady's n", 1, ANY, 4, ANY, (x, v) -> x.steady(v, 5, 5, 5, 0));
        bad("steady's WILL", 0, ANY, 60, ANY, (x, v) -> x.steady(3, v, 5, 5, 0));
        bad("steady's COST", 0, ANY, 999, ANY, (x, v) -> x.steady(3, 5, v, 5, 0));
        bad("steady's HOURS", 1, ANY, 24, ANY, (x, v) -> x.steady(3, 5, 5, v, 0));
        bad("steady's what", 0, ANY, 3, ANY, (x, v) -> x.steady(3, 5, 5, 5, v));
    }

    private static void must() {
        bad("must's n", 1, ANY, 4, ANY, (x, v) -> x.must(v, 5, 5, 5, 0));
        bad("must's WILL", 0, 0, 60, ANY, (x, v) -> x.must(3, v, 5, 5, 0));
        bad("must's COST", 0, ANY, 999, 0, (x, v) -> x.must(3, 5, v, 5, 0));
        bad("must's HOURS", 1, ANY, 24, ANY, (x, v) -> x.must(3, 5, 5, v, 0));
        bad("must's PERSON", 0, ANY, 2, ANY, (x, v) -> x.must(3, 5, 5, 5, v));
    }

    private static void stand() {
        bad("stand's FIELD", 0, 1, 0, 1, (x, v) -> x.stand(v));
    }

    private static void sheet() {
        bad("sheet's SHEET", 0, 1, 3, 1, (x, v) -> x.sheet(v, 1, 9));
        bad("sheet's lane", 0, 1, 2, 1, (x, v) -> x.sheet(1, v, 9));
        due.is("sheet of no CELLS", busy.make().sheet(1, 0, 0), 1);
        due.is("sheet of 72 CELLS", busy.make().sheet(1, 0, 72), 1);
        edges.refused("sheet's n, above", busy, BAD, (x, v) -> x.sheet(1, 0, v), 73, Integer.MAX_VALUE);
        edges.refused("sheet's n, below", busy, -14, (x, v) -> x.sheet(1, 0, v), -1, Integer.MIN_VALUE);
    }

    private static void write() {
        edges.refused("write's SHEET", busy, BAD, (x, v) -> x.write(v, 0, 1), -1, 4, Integer.MIN_VALUE,
                Integer.MAX_VALUE);
        edges.refused("write of nothing", busy, -11, (x, v) -> x.write(2, v, 1), -1, 0, 72);
        edges.refused("write where there is no CELL", busy, -12, (x, v) -> x.write(3, v, 1), -1, 0, 72);
        edges.of("write's CELL, of 5", busy, 0, 1, 4, 1, -12, (x, v) -> x.write(0, v, 1));
        edges.of("write's CELL, of 72", busy, 0, 1, 71, 1, -12, (x, v) -> x.write(1, v, 1));
    }

    private static void scan() {
        edges.refused("scan's SHEET", busy, BAD, (x, v) -> x.scan(v, 1, 0), -1, 4, Integer.MIN_VALUE,
                Integer.MAX_VALUE);
        edges.refused("scan's lane", busy, BAD, (x, v) -> x.scan(1, v, 0), -1, 3, Integer.MIN_VALUE,
                Integer.MAX_VALUE);
        edges.refused("scan of nothing", busy, -11, (x, v) -> x.scan(2, v, 0), 0, 1, 2);
        edges.refused("scan of another lane", busy, -13, (x, v) -> x.scan(1, v, 0), 0, 2);
        edges.of("scan from a CELL on, 12 of 72", busy, 0, 0, 60, 555, -12, (x, v) -> x.scan(1, 1, v));
    }

    private static void count() {
        bad("count's what", 0, 12, 13, 5, (x, v) -> x.count(v));
    }
}
