/** Promises 7 to 12: person, owner, lease, leaseOf, holds, told. */
public final class PromisesPersonsTest {
    private static final int MIN = Integer.MIN_VALUE, MAX = Integer.MAX_VALUE;
    private static final Due due = new Due("PromisesPersonsTest");

    public static void main(String[] args) {
        person();
        owner();
        lease();
        leaseEnds();
        holds();
        holdsAsLeasesEnd();
        told();
        toldMoreThanCameUp();
        due.end();
    }

    private static void person() {
        OilTown x = new OilTown();
        for (int p = 0; p < 6; p++) {
            due.is("person()", x.person(), p);
        }
        due.is("the seventh", x.person(), OilTown.FULL);
        due.is("count(3)", x.count(3), 6);
    }

    private static void owner() {
        OilTown x = Due.withPersons(2);
        due.is("owner(7, 1)", x.owner(7, 1), OilTown.NONE);
        due.is("owner(7, 0)", x.owner(7, 0), 1);
        int[][] bad = {{8, 0}, {-1, 0}, {7, 2}, {7, -1}, {7, -5}, {8, OilTown.NONE}, {MIN, 0}, {7, MAX}};
        for (int[] b : bad) {
            due.is("owner(" + b[0] + ", " + b[1] + ")", x.owner(b[0], b[1]), -5);
        }
        due.is("holds(7)", x.holds(7), 0);
        due.is("owner(7, NONE)", x.owner(7, OilTown.NONE), 0);
        due.is("owner(7, NONE)", x.owner(7, OilTown.NONE), OilTown.NONE);
    }

    private static void lease() {
        OilTown x = Due.withPersons(2);
        int[][] bad = {
            {-1, 0, 5, 5}, {8, 0, 5, 5}, {0, -1, 5, 5}, {0, 2, 5, 5}, {0, OilTown.NONE, 5, 5}, {0, 0, 0, 5},
            {0, 0, 200, 5}, {0, 0, -1, 5}, {0, 0, 5, -1}, {0, 0, 5, 1000}, {MAX, 0, 5, 5}, {0, 0, MIN, 5}
        };
        for (int[] b : bad) {
            due.is("lease(" + java.util.Arrays.toString(b) + ")", x.lease(b[0], b[1], b[2], b[3]), OilTown.BAD);
        }
        due.is("count(4)", x.count(4), 0);
        due.is("lease", x.lease(7, 1, 199, 999), 0);
        int[] want = {7, 1, 199, 999, 0, -1};
        for (int what = 0; what < want.length; what++) {
            due.is("leaseOf(0, " + what + ")", x.leaseOf(0, what), want[what]);
        }
        due.is("leaseOf(0, -1)", x.leaseOf(0, -1), OilTown.BAD);
        due.is("leaseOf(1, 0)", x.leaseOf(1, 0), OilTown.BAD);
        due.is("leaseOf(-1, 0)", x.leaseOf(-1, 0), OilTown.BAD);
        for (int k = 1; k < 12; k++) {
            due.is("lease " + k, x.lease(0, 0, 1, 0), k);
        }
        due.is("the 13th", x.lease(0, 0, 1, 0), OilTown.FULL);
        due.is("BAD ahead of FULL", x.lease(0, 0, 0, 0), OilTown.BAD);
        due.is("leaseOf(12, 0)", x.leaseOf(12, 0), OilTown.BAD);
        due.is("count(4)", x.count(4), 12);
    }

    private static void leaseEnds() {
        OilTown x = Due.withPersons(2);
        x.lay(0, 1);
        x.lay(1, 1);
        x.lay(2, 2);
        x.lease(1, 0, 2, 5);
        x.lease(2, 1, 2, 5);
        due.is("drill", x.drill(1, 2, 1), 0);
        x.hour();
        due.is("an hour ahead", x.leaseOf(0, 4), 0);
        x.hour();
        due.is("that hour", x.leaseOf(0, 4), 1);
        due.is("it has a well there", x.leaseOf(1, 4), 0);
        due.is("a well that is shut is one too", x.open(0, false), 1);
        due.is("leaseOf(1, 4)", x.leaseOf(1, 4), 0);
        x.lay(2, 1);
        due.is("its well is on another lot now", x.leaseOf(1, 4), 1);
        due.is("somebody else's well does not help", x.leaseOf(0, 4), 1);
        x.lay(2, 2);
        due.is("and back", x.leaseOf(1, 4), 0);
        x.hour();
        due.is("later", x.leaseOf(0, 4), 1);
        due.is("a lease of an hour gone by", x.lease(1, 0, 1, 0), 2);
        due.is("ended at once", x.leaseOf(2, 4), 1);
    }

    private static void holds() {
        OilTown x = Due.withPersons(4);
        for (int l : new int[] {-1, 8, MIN, MAX}) {
            due.is("holds(" + l + ")", x.holds(l), OilTown.BAD);
        }
        due.is("nobody", x.holds(0), OilTown.NONE);
        x.owner(0, 3);
        due.is("the owner", x.holds(0), 3);
        x.lease(0, 1, 9, 50);
        due.is("the lease", x.holds(0), 1);
        x.lease(0, 2, 9, 50);
        due.is("of several the least number", x.holds(0), 1);
        x.lease(0, 0, 9, 49);
        due.is("the least stamp", x.holds(0), 0);
        x.lease(1, 2, 9, 0);
        due.is("a lease of another lot", x.holds(0), 0);
        due.is("without an owner", x.holds(1), 2);
    }

    private static void holdsAsLeasesEnd() {
        OilTown x = Due.withPersons(3);
        x.lay(0, 0);
        x.owner(0, 2);
        x.lease(0, 0, 1, 1);
        x.lease(0, 1, 2, 2);
        due.is("the first lease", x.holds(0), 0);
        x.hour();
        due.is("the next", x.holds(0), 1);
        x.drill(1, 0, 1);
        x.hour();
        due.is("it drilled", x.holds(0), 1);
        x.lay(0, 3);
        due.is("no well on it any more", x.holds(0), 2);
        x.owner(0, OilTown.NONE);
        due.is("nobody", x.holds(0), OilTown.NONE);
    }

    private static void told() {
        OilTown x = Due.withPersons(2);
        x.field(2, 1);
        x.lay(0, 0);
        x.lay(1, 1);
        x.owner(0, 0);
        x.owner(1, 0);
        x.cell(0, 0, 0, 0, 300);
        x.cell(1, 0, 0, 100, 100);
        x.drill(0, 0, 10);
        x.drill(0, 1, 20);
        Due.orders(x, "each 15;");
        for (int i = 0; i < 4; i++) {
            due.is("hour()", x.hour(), 20);
        }
        x.sell(0, 30);
        x.hour();
        x.sell(0, 10);
        // sold 30 in shift 1: the 30 barrels were sold in shift 1, the 10 too
        int[] want = {60, 40, 4000, 2, 100, 50, 0, -1, -1, -1, 50, 50, 0, 0, 0, 0, 0, 0, 0, -1};
        for (int what = 0; what < want.length; what++) {
            due.is("told(0, " + what + ")", x.told(0, what), want[what]);
            boolean is = what < 7 || what > 9 && what < 19;
            due.is("told(1, " + what + ")", x.told(1, what), is ? 0 : OilTown.BAD);
        }
        for (int p : new int[] {-1, 2, OilTown.NONE, MIN, MAX}) {
            due.is("told(" + p + ", 0)", x.told(p, 0), OilTown.BAD);
        }
        due.is("told(0, MIN)", x.told(0, MIN), OilTown.BAD);
        due.is("told(0, MAX)", x.told(0, MAX), OilTown.BAD);
    }

    private static void toldMoreThanCameUp() {
        OilTown x = Due.withPersons(1);
        x.field(1, 1);
        x.lay(0, 0);
        x.owner(0, 0);
        x.cell(0, 0, 0, 0, 500);
        x.drill(0, 0, 25);
        Due.orders(x, "each 40;");
        for (int i = 0; i < 4; i++) {
            x.hour();
        }
        due.is("hot", x.told(0, 5), 60);
        x.sell(0, 40);
        due.is("sold as many as were let", x.told(0, 6), 0);
        x.sell(0, 7);
        due.is("seven more", x.told(0, 6), 7);
        x.voids(0);
        due.is("as if it had never been", x.told(0, 6), 0);
    }
}
