/** Towns that tests start from. */
final class Towns {
    interface Maker {
        OilTown make();
    }

    private Towns() {
    }

    /** One cell without flows, of lot 0, that person 0 owns. */
    static OilTown oneCell(int persons, int oil, int water) {
        OilTown x = Due.withPersons(persons);
        x.field(1, 1);
        x.lay(0, 0);
        x.owner(0, 0);
        x.cell(0, 0, 0, water, oil);
        return x;
    }

    /** Something of everything, but nothing full: 4 persons, 4 by 3 cells, 2 leases, 3 wells, 6 lines, hour 9. */
    static OilTown busy() {
        OilTown x = Due.withPersons(4);
        x.field(4, 3);
        int[] lots = {0, 0, 1, 1, 0, 0, 1, 1, 7, 7, OilTown.NONE, OilTown.NONE};
        for (int c = 0; c < 12; c++) {
            x.lay(c, lots[c]);
            x.cell(c, 8, 10 * c, 5 * c, 300 - 20 * c);
        }
        x.owner(0, 0);
        x.owner(1, 1);
        x.owner(7, 2);
        x.lease(1, 3, 100, 5);
        x.lease(7, 0, 3, 0);
        Due.orders(x, "apart 1; each 50; from 1 acre 20; from 2 shut; except 3; near 0;");
        x.voids(3);
        Due.orders(x, "near 10;");
        x.drill(0, 0, 20);
        x.drill(3, 2, 15);
        hours(x, 4);
        x.sell(0, 30);
        x.drill(2, 8, 25);
        x.keep();
        hours(x, 5);
        x.sell(3, 20);
        x.open(1, false);
        for (int p = 0; p < 4; p++) {
            x.spot(p, 3 * p);
        }
        x.sheet(0, 0, 5);
        x.sheet(1, 1, 72);
        x.sheet(3, 2, 0);
        x.write(0, 4, 44);
        x.write(1, 71, 555);
        Due.feed(x, "shut;");
        return x;
    }

    /** All that can be full is: 6 persons, 12 leases, 10 wells, 12 lines, 3 fields, 160 bytes, hour 199. */
    static OilTown brim() {
        OilTown x = Due.withPersons(6);
        x.field(6, 2);
        for (int l = 0; l < 8; l++) {
            x.lay(l, l);
            x.owner(l, l % 6);
            x.cell(l, 0, 0, l == 3 ? 10 : 0, 999);
        }
        for (int k = 0; k < 12; k++) {
            x.lease(7, k % 6, 199, 999 - k);
        }
        for (int k = 0; k < 10; k++) {
            x.drill(k % 6, k % 6, 1 + k % 3);
        }
        Due.orders(x, shuts(12));
        x.keep();
        hours(x, 100);
        x.keep();
        hours(x, 99);
        for (int p = 0; p < 6; p++) {
            x.sell(p, p + 1);
        }
        x.keep();
        for (int i = 0; i < 20; i++) {
            x.feed(0x736875743b202020L);
        }
        x.sheet(0, 0, 72);
        return x;
    }

    static void hours(OilTown x, int n) {
        for (int i = 0; i < n; i++) {
            x.hour();
        }
    }

    /** That many lines, each from a shift of its own. */
    static String shuts(int n) {
        StringBuilder text = new StringBuilder();
        for (int i = 0; i < n; i++) {
            text.append("from").append(i).append("shut;");
        }
        return text.toString();
    }
}
