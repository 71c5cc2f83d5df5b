/** Promises 13 to 20: drill, why, will, open, wellOf, drew, sell, price. */
public final class PromisesWellsTest {
    private static final int MIN = Integer.MIN_VALUE, MAX = Integer.MAX_VALUE;
    private static final Due due = new Due("PromisesWellsTest");

    public static void main(String[] args) {
        drill();
        drillFull();
        whyHeld();
        whyNear();
        whyApart();
        whyExcepted();
        will();
        open();
        wellOf();
        drewByShifts();
        drewLet();
        drewLetByAcres();
        sell();
        price();
        due.end();
    }

    private static void drill() {
        OilTown x = Towns.oneCell(2, 100, 0);
        int[][] bad = {
            {-1, 0, 5}, {2, 0, 5}, {0, -1, 5}, {0, 1, 5}, {0, 0, -1}, {0, 0, 61}, {1, 0, 61}, {MIN, 0, 0}, {0, MAX, 0}
        };
        for (int[] b : bad) {
            due.is("drill(" + java.util.Arrays.toString(b) + ")", x.drill(b[0], b[1], b[2]), OilTown.BAD);
        }
        due.is("not its lot", x.drill(1, 0, 5), OilTown.STATE);
        due.is("drill(0, 0, 60)", x.drill(0, 0, 60), 0);
        due.is("two in one cell", x.drill(0, 0, 0), 1);
        due.is("count(5)", x.count(5), 2);
    }

    private static void drillFull() {
        OilTown x = Towns.oneCell(2, 100, 0);
        for (int k = 0; k < 10; k++) {
            due.is("drill " + k, x.drill(0, 0, k), k);
        }
        due.is("the 11th", x.drill(0, 0, 1), OilTown.FULL);
        due.is("STATE ahead of FULL", x.drill(1, 0, 1), OilTown.STATE);
        due.is("BAD ahead of both", x.drill(1, 0, 61), OilTown.BAD);
        due.is("count(5)", x.count(5), 10);
        due.is("it would be let", x.why(0, 0), 0);
    }

    private static void whyHeld() {
        OilTown x = Due.withPersons(2);
        x.owner(0, 0);
        due.is("no lot", x.why(0, 0), 1);
        x.lay(0, 0);
        due.is("its owner", x.why(0, 0), 0);
        due.is("another", x.why(1, 0), 1);
        x.lease(0, 1, 5, 5);
        due.is("it is leased", x.why(0, 0), 1);
        due.is("who has the lease", x.why(1, 0), 0);
        int[][] bad = {{-1, 0}, {2, 0}, {0, -1}, {0, 9}, {OilTown.NONE, 0}, {MAX, 0}, {0, MIN}};
        for (int[] b : bad) {
            due.is("why(" + b[0] + ", " + b[1] + ")", x.why(b[0], b[1]), OilTown.BAD);
        }
        x.lay(1, 1);
        due.is("a lot that nobody holds", x.why(0, 1), 1);
    }

    private static void whyNear() {
        OilTown x = Due.withPersons(2);
        x.field(5, 1);
        x.owner(0, 0);
        for (int c = 0; c < 4; c++) {
            x.lay(c, 0);
        }
        Due.orders(x, "near 2;");
        due.is("a cell of no lot is 1 away", x.why(0, 3), 2);
        due.is("2 away", x.why(0, 2), 0);
        x.lay(4, 1);
        due.is("a cell of another lot is 1 away", x.why(0, 3), 2);
        x.lay(4, 0);
        due.is("all one lot", x.why(0, 3), 0);
        Due.orders(x, "near 9;");
        due.is("all one lot", x.why(0, 3), 0);
        due.is("1 ahead of 2", x.why(1, 3), 1);
        x.lay(0, OilTown.NONE);
        Due.orders(x, "from 1 near 4; near 3;");
        due.is("3 away", x.why(0, 3), 0);
        for (int i = 0; i < 4; i++) {
            x.hour();
        }
        due.is("from shift 1 on", x.why(0, 3), 2);
        x.voids(0);
        due.is("the earlier line again", x.why(0, 3), 0);
    }

    private static void whyApart() {
        OilTown x = Due.withPersons(2);
        x.field(3, 3);
        for (int c = 0; c < 9; c++) {
            x.lay(c, c < 8 ? 0 : 1);
        }
        x.owner(0, 0);
        x.owner(1, 1);
        x.drill(1, 8, 1);
        Due.orders(x, "apart 3;");
        due.is("2 away", x.why(0, 4), 3);
        due.is("3 away", x.why(0, 1), 0);
        x.open(0, false);
        due.is("a shut well stands too", x.why(0, 4), 3);
        Due.orders(x, "apart 3; near 3;");
        due.is("2 ahead of 3", x.why(0, 4), 2);
        due.is("drill", x.drill(0, 4, 5), OilTown.STATE);
        Due.orders(x, "apart 1;");
        due.is("in the same cell", x.why(1, 8), 3);
        due.is("beside it", x.why(0, 7), 0);
        Due.orders(x, "apart 0;");
        due.is("none is nearer than 0", x.why(1, 8), 0);
    }

    private static void whyExcepted() {
        OilTown x = Towns.oneCell(2, 0, 0);
        x.drill(0, 0, 1);
        Due.orders(x, "apart 9; from 1 except 0; except 1;");
        due.is("not yet", x.why(0, 0), 3);
        for (int i = 0; i < 4; i++) {
            x.hour();
        }
        due.is("from that shift on", x.why(0, 0), 0);
        for (int i = 0; i < 4; i++) {
            x.hour();
        }
        due.is("and later", x.why(0, 0), 0);
        due.is("an except does not make it hold", x.why(1, 0), 1);
        x.voids(1);
        due.is("void", x.why(0, 0), 3);
        x.owner(0, 1);
        due.is("the other", x.why(1, 0), 0);
    }

    private static void will() {
        OilTown x = Towns.oneCell(1, 100, 0);
        x.drill(0, 0, 7);
        due.is("will(0, 60)", x.will(0, 60), 7);
        for (int v : new int[] {-1, 61, MIN, MAX}) {
            due.is("will(0, " + v + ")", x.will(0, v), OilTown.BAD);
        }
        due.is("will(1, 5)", x.will(1, 5), OilTown.BAD);
        due.is("will(-1, 5)", x.will(-1, 5), OilTown.BAD);
        due.is("will(0, 0)", x.will(0, 0), 60);
        due.is("wellOf(0, 2)", x.wellOf(0, 2), 0);
    }

    private static void open() {
        OilTown x = Towns.oneCell(1, 100, 0);
        x.drill(0, 0, 7);
        due.is("open(0, true)", x.open(0, true), 1);
        due.is("open(0, false)", x.open(0, false), 1);
        due.is("wellOf(0, 3)", x.wellOf(0, 3), 0);
        due.is("open(0, false)", x.open(0, false), 0);
        due.is("open(0, true)", x.open(0, true), 0);
        due.is("wellOf(0, 3)", x.wellOf(0, 3), 1);
        due.is("open(1, true)", x.open(1, true), OilTown.BAD);
        due.is("open(-1, true)", x.open(-1, true), OilTown.BAD);
    }

    private static void wellOf() {
        OilTown x = Due.withPersons(2);
        x.field(2, 1);
        x.lay(1, 3);
        x.owner(3, 1);
        x.cell(1, 0, 0, 30, 70);
        x.drill(1, 1, 15);
        Due.orders(x, "each 8;");
        x.hour();
        int[] want = {1, 1, 15, 1, 10, 5, 2, -1, -1, -1, 0, 0, 0, 10, 0, 0, 0, 0, 0, -1};
        for (int what = 0; what < want.length; what++) {
            due.is("wellOf(0, " + what + ")", x.wellOf(0, what), want[what]);
        }
        for (int what : new int[] {-1, 20, MIN, MAX}) {
            due.is("wellOf(0, " + what + ")", x.wellOf(0, what), OilTown.BAD);
        }
        for (int k : new int[] {-1, 1, 10, MIN, MAX}) {
            due.is("wellOf(" + k + ", 0)", x.wellOf(k, 0), OilTown.BAD);
        }
        x.lay(1, OilTown.NONE);
        x.cell(1, 0, 0, 0, 100);
        x.hour();
        due.is("of place 8", x.wellOf(0, 18), 15);
        due.is("of lot 3", x.wellOf(0, 13), 10);
        due.is("all", x.wellOf(0, 4), 25);
    }

    private static void drewByShifts() {
        OilTown x = Towns.oneCell(1, 900, 0);
        x.hour();
        x.drill(0, 0, 10);
        for (int i = 0; i < 9; i++) {
            x.hour();
        }
        int[] want = {30, 40, 20, 0};
        for (int shift = 0; shift < 4; shift++) {
            due.is("drew(0, " + shift + ", 0)", x.drew(0, shift, 0), want[shift]);
        }
        due.is("drew(0, 49, 0)", x.drew(0, 49, 0), 0);
        int[][] bad = {{-1, 0, 0}, {1, 0, 0}, {0, -1, 0}, {0, 50, 0}, {0, 0, -1}, {0, 0, 3}, {MAX, 0, 0}, {0, MIN, 0}};
        for (int[] b : bad) {
            due.is("drew(" + java.util.Arrays.toString(b) + ")", x.drew(b[0], b[1], b[2]), OilTown.BAD);
        }
    }

    private static void drewLet() {
        OilTown x = Towns.oneCell(1, 900, 0);
        x.drill(0, 0, 10);
        for (int i = 0; i < 16; i++) {
            x.hour();
        }
        due.is("no line: none", x.drew(0, 0, 1), OilTown.NONE);
        due.is("no line: not hot", x.drew(0, 0, 2), 0);
        Due.orders(x, "from 1 each 35; from 2 each 50; from 3 shut;");
        int[] let = {OilTown.NONE, 35, 50, 0};
        int[] hot = {0, 5, 0, 40};
        for (int shift = 0; shift < 4; shift++) {
            due.is("drew(0, " + shift + ", 1)", x.drew(0, shift, 1), let[shift]);
            due.is("drew(0, " + shift + ", 2)", x.drew(0, shift, 2), hot[shift]);
        }
        due.is("a shift to come", x.drew(0, 49, 1), 0);
        due.is("nothing drawn", x.drew(0, 49, 2), 0);
        due.is("count(10)", x.count(10), 45);
        Due.orders(x, "each 0;");
        due.is("all is hot", x.wellOf(0, 6), 160);
    }

    private static void drewLetByAcres() {
        OilTown x = Due.withPersons(2);
        for (int c = 0; c < 5; c++) {
            x.lay(c, 0);
        }
        x.lay(5, 1);
        x.owner(0, 0);
        x.owner(1, 1);
        x.drill(0, 0, 1);
        x.drill(0, 4, 1);
        x.drill(1, 5, 1);
        Due.orders(x, "acre 9; from 1 each 21; from 2 each 23;");
        due.is("9 * 5 / 2", x.drew(0, 0, 1), 22);
        due.is("9 * 1 / 1", x.drew(2, 0, 1), 9);
        due.is("each is less", x.drew(0, 1, 1), 21);
        due.is("acre is less", x.drew(0, 2, 1), 22);
        x.lay(8, 0);
        due.is("9 * 6 / 2, as they are now", x.drew(0, 0, 1), 27);
        x.open(1, false);
        due.is("a shut well shares too", x.drew(0, 0, 1), 27);
        x.lay(4, OilTown.NONE);
        due.is("9 * 5 / 1", x.drew(0, 0, 1), 45);
        due.is("a cell without a lot", x.drew(1, 0, 1), 0);
        due.is("a cell without a lot", x.drew(1, 2, 1), 0);
    }

    private static void sell() {
        OilTown x = Towns.oneCell(2, 900, 0);
        x.drill(0, 0, 60);
        for (int i = 0; i < 3; i++) {
            x.hour();
        }
        int[][] bad = {{-1, 1}, {2, 1}, {0, 0}, {0, -1}, {0, 1000}, {0, MIN}, {0, MAX}, {MIN, 1}};
        for (int[] b : bad) {
            due.is("sell(" + b[0] + ", " + b[1] + ")", x.sell(b[0], b[1]), OilTown.BAD);
        }
        due.is("one too many", x.sell(0, 181), OilTown.STATE);
        due.is("999 are a number", x.sell(0, 999), OilTown.STATE);
        due.is("none at all", x.sell(1, 1), OilTown.STATE);
        due.is("nothing changed", x.told(0, 0), 180);
        due.is("sell(0, 1)", x.sell(0, 1), 100);
        due.is("sell(0, 179)", x.sell(0, 179), 17900);
        due.is("tank", x.told(0, 0), 0);
        due.is("sold", x.told(0, 1), 180);
        due.is("paid", x.told(0, 2), 18000);
        due.is("count(9)", x.count(9), 180);
        x.hour();
        due.is("the price fell", x.sell(0, 10), 640);
        due.is("paid", x.told(0, 2), 18640);
    }

    private static void price() {
        OilTown x = Towns.oneCell(2, 999, 0);
        x.drill(0, 0, 60);
        for (int k = 1; k < 10; k++) {
            x.drill(0, 0, 60);
        }
        due.is("price(0)", x.price(0), 100);
        due.is("price(1)", x.price(1), OilTown.BAD);
        due.is("price(-1)", x.price(-1), OilTown.BAD);
        due.is("price(MIN)", x.price(MIN), OilTown.BAD);
        due.is("price(MAX)", x.price(MAX), OilTown.BAD);
        x.hour();
        x.hour();
        x.sell(0, 9);
        for (int i = 0; i < 2; i++) {
            x.hour();
        }
        due.is("a fifth of 9 is 1", x.price(1), 99);
        x.sell(0, 484);
        due.is("it is the shift ahead that counts", x.price(1), 99);
        due.is("price(2)", x.price(2), OilTown.BAD);
        for (int i = 0; i < 4; i++) {
            x.hour();
        }
        due.is("484 by 5 is 96: 4", x.price(2), 4);
        x.sell(0, 485);
        for (int i = 0; i < 4; i++) {
            x.hour();
        }
        due.is("97: 4 at least", x.price(3), 4);
        for (int i = 0; i < 4; i++) {
            x.hour();
        }
        due.is("nothing was sold", x.price(4), 100);
        due.is("as it was", x.price(2), 4);
    }
}
