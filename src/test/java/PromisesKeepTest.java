/** Promises 32 and 33: keep, stand. */
public final class PromisesKeepTest {
    private static final Due due = new Due("PromisesKeepTest");

    public static void main(String[] args) {
        numbers();
        allBecomesAsItWas();
        whatIsNotKept();
        keptStaysAsItIs();
        due.end();
    }

    private static void numbers() {
        OilTown x = new OilTown();
        due.is("stand(0)", x.stand(0), OilTown.BAD);
        for (int k = 0; k < 3; k++) {
            due.is("keep()", x.keep(), k);
            due.is("count(11)", x.count(11), k + 1);
        }
        due.is("keep()", x.keep(), OilTown.FULL);
        for (int k : new int[] {-1, 3, Integer.MIN_VALUE, Integer.MAX_VALUE}) {
            due.is("stand(" + k + ")", x.stand(k), OilTown.BAD);
        }
        due.is("stand(2)", x.stand(2), 1);
        due.is("count(11)", x.count(11), 3);
    }

    /** What there is to ask about a field with what is kept with it. */
    private static String picture(OilTown x) {
        StringBuilder seen = new StringBuilder();
        for (int c = 0; c < 36; c++) {
            for (int what = 0; what < 19; what++) {
                seen.append(x.cellOf(c, what)).append(' ');
            }
        }
        for (int k = 0; k < 12; k++) {
            for (int what = 0; what < 19; what++) {
                seen.append(x.leaseOf(k, what)).append(' ').append(x.wellOf(k, what)).append(' ');
                seen.append(x.told(k, what)).append(' ');
            }
            for (int shift = 0; shift < 50; shift++) {
                seen.append(x.drew(k, shift, 0)).append(' ');
            }
        }
        for (int shift = 0; shift < 50; shift++) {
            seen.append(x.price(shift)).append(' ');
        }
        for (int l = 0; l < 8; l++) {
            seen.append(x.holds(l)).append(' ');
        }
        for (int what : new int[] {0, 1, 2, 4, 5, 7, 8, 9}) {
            seen.append(x.count(what)).append(' ');
        }
        return seen.toString();
    }

    private static OilTown busyTown() {
        OilTown x = Due.withPersons(3);
        x.field(3, 2);
        for (int c = 0; c < 6; c++) {
            x.lay(c, c / 2);
            x.cell(c, 9, 10 * c, 20, 100 + 50 * c);
        }
        x.owner(0, 0);
        x.owner(1, 1);
        x.owner(2, 2);
        x.lease(2, 0, 9, 7);
        x.drill(0, 0, 20);
        x.drill(1, 2, 25);
        x.drill(0, 5, 30);
        x.open(1, false);
        for (int i = 0; i < 5; i++) {
            x.hour();
        }
        x.sell(0, 50);
        for (int i = 0; i < 4; i++) {
            x.hour();
        }
        return x;
    }

    private static void allBecomesAsItWas() {
        OilTown x = busyTown();
        String before = picture(x);
        x.keep();
        x.hour();
        x.will(0, 1);
        x.open(1, true);
        x.owner(1, 2);
        x.lease(1, 2, 50, 1);
        x.lay(3, 7);
        x.cell(3, 1, 1, 1, 1);
        x.sell(0, 20);
        x.drill(1, 2, 9);
        for (int i = 0; i < 7; i++) {
            x.hour();
        }
        due.holds("all is otherwise", !before.equals(picture(x)));
        due.is("stand(0)", x.stand(0), 1);
        due.holds("all is as it was", before.equals(picture(x)));
        x.field(6, 6);
        x.lay(35, 5);
        x.owner(5, 1);
        x.drill(1, 35, 44);
        x.drill(1, 35, 45);
        x.lease(6, 1, 77, 66);
        x.lay(0, 5);
        x.cell(0, 3, 5, 7, 300);
        x.hour();
        x.stand(0);
        due.holds("all is as it was ahead of field", before.equals(picture(x)));
        OilTown twin = busyTown();
        for (int i = 0; i < 6; i++) {
            due.is("it goes on alike", x.hour(), twin.hour());
        }
        due.holds("it went on alike", picture(twin).equals(picture(x)));
    }

    private static void whatIsNotKept() {
        OilTown x = Due.withPersons(1);
        x.spot(0, 1);
        Due.orders(x, "near 1;");
        x.keep();
        x.person();
        x.spot(0, 2);
        x.spot(1, 3);
        Due.orders(x, "each 1; shut;");
        x.voids(1);
        x.sheet(0, 1, 7);
        Due.feed(x, "near");
        x.stand(0);
        due.is("persons stay", x.count(3), 2);
        due.is("spots stay", x.spot(0, 0), 2);
        due.is("spots stay", x.spot(1, 0), 3);
        due.is("lines stay", x.count(6), 2);
        due.is("void stays", x.line(1, 3), 1);
        due.is("the tape stays", x.count(12), 4);
        due.is("sheets stay", x.count(13), 7);
        due.is("fields stay", x.count(11), 1);
        due.is("a tank of who came later", x.told(1, 0), 0);
    }

    private static void keptStaysAsItIs() {
        OilTown x = busyTown();
        x.keep();
        String first = picture(x);
        x.hour();
        x.keep();
        String second = picture(x);
        x.stand(0);
        x.cell(0, 0, 0, 0, 0);
        x.hour();
        x.owner(0, OilTown.NONE);
        x.stand(1);
        due.holds("the second", second.equals(picture(x)));
        x.hour();
        x.stand(0);
        due.holds("the first, once more", first.equals(picture(x)));
    }
}
