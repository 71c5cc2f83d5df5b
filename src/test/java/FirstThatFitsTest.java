/** "Answers: BAD .., STATE .., FULL .., NONE .., the first that fits": where several would, call by call. */
public final class FirstThatFitsTest {
    private static final int NONE = OilTown.NONE, BAD = OilTown.BAD, STATE = OilTown.STATE, FULL = OilTown.FULL;
    private static final Due due = new Due("FirstThatFitsTest");

    public static void main(String[] args) {
        lease();
        drill();
        why();
        sell();
        gain();
        steady();
        must();
        voids();
        sheet();
        write();
        scan();
        lets();
        stand();
        due.end();
    }

    private static void lease() {
        due.is("no such LOT ahead of FULL", Towns.brim().lease(8, 0, 1, 0), BAD);
        due.is("no such PERSON ahead of FULL", Towns.brim().lease(0, 6, 1, 0), BAD);
        due.is("no such HOUR ahead of FULL", Towns.brim().lease(0, 0, 200, 0), BAD);
        due.is("no such STAMP ahead of FULL", Towns.brim().lease(0, 0, 1, 1000), BAD);
        due.is("FULL", Towns.brim().lease(0, 0, 1, 0), FULL);
    }

    private static void drill() {
        due.is("no such WILL ahead of STATE", Towns.brim().drill(0, 1, 61), BAD);
        due.is("no such PERSON ahead of STATE", Towns.brim().drill(6, 1, 60), BAD);
        due.is("no such CELL ahead of STATE", Towns.brim().drill(0, 12, 60), BAD);
        due.is("STATE ahead of FULL", Towns.brim().drill(0, 1, 60), STATE);
        due.is("no such WILL ahead of FULL", Towns.brim().drill(0, 0, 61), BAD);
        due.is("FULL", Towns.brim().drill(0, 0, 60), FULL);
    }

    /** "1 it does not HOLD the LOT, 2 near, 3 apart, the first". */
    private static void why() {
        OilTown x = Due.withPersons(2);
        x.field(3, 1);
        x.lay(0, 0);
        x.lay(1, 0);
        x.owner(0, 0);
        x.drill(0, 0, 1);
        Due.orders(x, "near 2; apart 2;");
        due.is("1, 2 and 3", x.why(1, 1), 1);
        due.is("2 and 3", x.why(0, 1), 2);
        due.is("3", x.why(0, 0), 3);
        due.is("1, of no LOT", x.why(0, 2), 1);
        Due.orders(x, "apart 2;");
        due.is("1 and 3", x.why(1, 1), 1);
        due.is("3", x.why(0, 1), 3);
        Due.orders(x, "near 2; apart 2; except 0; except 1;");
        due.is("1, though it is excepted", x.why(1, 1), 1);
        due.is("0, excepted of 2 and 3", x.why(0, 1), 0);
        due.is("BAD", x.why(2, 1), BAD);
    }

    private static void sell() {
        OilTown x = Towns.oneCell(1, 0, 0);
        due.is("a number above 999 ahead of STATE", x.sell(0, 1000), BAD);
        due.is("STATE", x.sell(0, 999), STATE);
        due.is("0 of an empty TANK", x.sell(0, 0), BAD);
    }

    private static OilTown withoutSpots() {
        return Due.withPersons(2);
    }

    private static void gain() {
        due.is("n ahead of STATE", withoutSpots().gain(3, 1, 1, 1, 0, 0), -100000);
        due.is("WILL ahead of STATE", withoutSpots().gain(2, 61, 1, 1, 0, 0), -100000);
        due.is("COST ahead of STATE", withoutSpots().gain(2, 1, 1000, 1, 0, 0), -100000);
        due.is("HOURS ahead of STATE", withoutSpots().gain(2, 1, 1, 25, 0, 0), -100000);
        due.is("the set ahead of STATE", withoutSpots().gain(2, 1, 1, 1, 4, 0), -100000);
        due.is("the PERSON ahead of STATE", withoutSpots().gain(2, 1, 1, 1, 0, 2), -100000);
        due.is("STATE", withoutSpots().gain(2, 1, 1, 1, 0, 0), -100002);
    }

    private static void steady() {
        due.is("n ahead of STATE", withoutSpots().steady(3, 1, 1, 1, 0), BAD);
        due.is("WILL ahead of STATE", withoutSpots().steady(2, -1, 1, 1, 0), BAD);
        due.is("COST ahead of STATE", withoutSpots().steady(2, 1, -1, 1, 0), BAD);
        due.is("HOURS ahead of STATE", withoutSpots().steady(2, 1, 1, 0, 0), BAD);
        due.is("what ahead of STATE", withoutSpots().steady(2, 1, 1, 1, 4), BAD);
        for (int what = 0; what < 4; what++) {
            due.is("STATE", withoutSpots().steady(2, 1, 1, 1, what), STATE);
        }
    }

    private static void must() {
        due.is("n ahead of STATE", withoutSpots().must(0, 1, 1, 1, 0), BAD);
        due.is("WILL ahead of STATE", withoutSpots().must(2, 61, 1, 1, 0), BAD);
        due.is("COST ahead of STATE", withoutSpots().must(2, 1, 1000, 1, 0), BAD);
        due.is("HOURS ahead of STATE", withoutSpots().must(2, 1, 1, 25, 0), BAD);
        due.is("the PERSON ahead of STATE", withoutSpots().must(2, 1, 1, 1, 2), BAD);
        due.is("STATE", withoutSpots().must(2, 1, 1, 1, 1), STATE);
    }

    private static void voids() {
        OilTown x = new OilTown();
        Due.orders(x, "shut;");
        due.is("it is found so", x.voids(0), 0);
        due.is("it is VOID", x.voids(0), -100002);
        due.is("no such LINE", x.voids(1), -100000);
        due.is("VOID once", x.line(0, 3), 1);
    }

    private static void sheet() {
        OilTown x = new OilTown();
        due.is("no such SHEET ahead of SIZE", x.sheet(4, 0, -1), BAD);
        due.is("no such lane ahead of SIZE", x.sheet(0, 3, -1), BAD);
        due.is("SIZE", x.sheet(0, 0, -1), -14);
    }

    private static void write() {
        OilTown x = new OilTown();
        due.is("no such SHEET ahead of NULL", x.write(4, 0, 0), BAD);
        due.is("NULL ahead of INDEX", x.write(0, -1, 0), -11);
        x.sheet(0, 0, 1);
        due.is("INDEX", x.write(0, -1, 0), -12);
    }

    private static void scan() {
        OilTown x = new OilTown();
        x.field(2, 1);
        due.is("no such SHEET ahead of NULL", x.scan(4, 0, 0), BAD);
        due.is("no such lane ahead of NULL", x.scan(0, 3, 0), BAD);
        due.is("NULL ahead of INDEX", x.scan(0, 0, -1), -11);
        x.sheet(0, 2, 2);
        x.write(0, 0, -1);
        due.is("no such lane ahead of CAST", x.scan(0, 3, 0), BAD);
        due.is("CAST ahead of INDEX", x.scan(0, 1, -1), -13);
        due.is("CAST ahead of what a CELL is", x.scan(0, 1, 0), -13);
        due.is("INDEX of CELL 0", x.scan(0, 2, -1), -12);
        due.is("what CELL 0 is", x.scan(0, 2, 0), -100);
        x.write(0, 1, 1000);
        due.is("CELL 0 ahead of CELL 1", x.scan(0, 2, 0), -100);
        due.is("what CELL 1 is ahead of INDEX", x.scan(0, 2, 1), -100);
        x.write(0, 1, 999);
        due.is("INDEX", x.scan(0, 2, 1), -12);
    }

    private static void lets() {
        OilTown x = Due.withPersons(1);
        due.is("no such rule ahead of NONE", x.lets(0, 0, 2), BAD);
        due.is("no such CELL ahead of NONE", x.lets(0, 9, 0), BAD);
        due.is("NONE", x.lets(0, 0, 0), NONE);
        due.is("NONE", x.lets(0, 0, 1), NONE);
    }

    private static void stand() {
        OilTown x = new OilTown();
        due.is("none is kept", x.stand(0), BAD);
        due.is("keep", x.keep(), 0);
        due.is("stand(0)", x.stand(0), 1);
        due.is("stand(1)", x.stand(1), BAD);
    }
}
