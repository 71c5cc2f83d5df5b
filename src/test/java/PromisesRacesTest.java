/** Promises 28 to 31: spot, gain, steady, must. */
public final class PromisesRacesTest {
    private static final int MIN = Integer.MIN_VALUE, MAX = Integer.MAX_VALUE;
    private static final Due due = new Due("PromisesRacesTest");

    public static void main(String[] args) {
        spot();
        bad();
        state();
        oneCellForTwo();
        neverLess();
        nothingToGain();
        noSetIsSteady();
        wellsThatStand();
        fourRace();
        flowsInARace();
        waterInARace();
        mustAlone();
        nothingChanges();
        due.end();
    }

    private static void spot() {
        OilTown x = Due.withPersons(2);
        due.is("spot(0, 8)", x.spot(0, 8), OilTown.NONE);
        due.is("spot(0, 3)", x.spot(0, 3), 8);
        int[][] bad = {{-1, 0}, {2, 0}, {0, -1}, {0, 9}, {0, OilTown.NONE}, {MIN, 0}, {0, MAX}};
        for (int[] b : bad) {
            due.is("spot(" + b[0] + ", " + b[1] + ")", x.spot(b[0], b[1]), -5);
        }
        due.is("spot(0, 0)", x.spot(0, 0), 3);
        due.is("spot(1, 0)", x.spot(1, 0), OilTown.NONE);
    }

    private static void bad() {
        OilTown x = Due.withPersons(5);
        for (int p = 0; p < 5; p++) {
            x.spot(p, p);
        }
        int[][] races = {
            {0, 1, 1, 1}, {-1, 1, 1, 1}, {5, 1, 1, 1}, {MIN, 1, 1, 1}, {MAX, 1, 1, 1}, {2, -1, 1, 1}, {2, 61, 1, 1},
            {2, 1, -1, 1}, {2, 1, 1000, 1}, {2, 1, 1, 0}, {2, 1, 1, 25}, {2, 1, 1, MIN}, {2, 1, 1, MAX}
        };
        for (int[] r : races) {
            String race = java.util.Arrays.toString(r);
            due.is("gain of " + race, x.gain(r[0], r[1], r[2], r[3], 0, 0), -100000);
            due.is("steady of " + race, x.steady(r[0], r[1], r[2], r[3], 0), OilTown.BAD);
            due.is("must of " + race, x.must(r[0], r[1], r[2], r[3], 0), OilTown.BAD);
        }
        int[][] sets = {{2, 4, 0}, {2, -1, 0}, {1, 2, 0}, {4, 16, 0}, {2, 0, 2}, {2, 0, -1}, {4, 0, 4}, {2, MIN, 0}};
        for (int[] s : sets) {
            due.is("gain of " + java.util.Arrays.toString(s), x.gain(s[0], 1, 1, 1, s[1], s[2]), -100000);
        }
        for (int what : new int[] {-1, 4, MIN, MAX}) {
            due.is("steady(.., " + what + ")", x.steady(2, 1, 1, 1, what), OilTown.BAD);
        }
        for (int p : new int[] {-1, 2, 4, MIN, MAX}) {
            due.is("must(.., " + p + ")", x.must(2, 1, 1, 1, p), OilTown.BAD);
        }
        due.is("the edges", x.gain(4, 60, 999, 24, 15, 3), -999);
        due.is("the edges", x.gain(4, 0, 0, 1, 0, 0), 0);
        due.is("more than persons", Due.withPersons(1).gain(2, 1, 1, 1, 0, 0), -100000);
    }

    private static void state() {
        OilTown x = Due.withPersons(3);
        x.spot(1, 0);
        due.is("the first has none", x.gain(2, 1, 1, 1, 0, 0), -100002);
        x = Due.withPersons(3);
        x.spot(0, 0);
        due.is("one has none", x.gain(2, 1, 1, 1, 0, 0), -100002);
        due.is("one has none", x.steady(2, 1, 1, 1, 0), OilTown.STATE);
        due.is("one has none", x.must(2, 1, 1, 1, 0), OilTown.STATE);
        due.is("BAD first", x.gain(2, 1, 1, 1, 4, 0), -100000);
        due.is("BAD first", x.steady(2, 1, 1, 1, 4), OilTown.BAD);
        due.is("BAD first", x.must(2, 1, 1, 1, 2), OilTown.BAD);
        due.is("it does not race", x.gain(1, 1, 1, 1, 0, 0), 0);
        x.spot(1, 8);
        due.is("all have", x.gain(2, 1, 1, 1, 0, 0), 0);
        x.field(4, 2);
        due.is("none that is there", x.gain(2, 1, 1, 1, 0, 0), -100002);
        due.is("none that is there", x.steady(2, 1, 1, 1, 1), OilTown.STATE);
        due.is("none that is there", x.must(2, 1, 1, 1, 1), OilTown.STATE);
        x.field(3, 3);
        due.is("there again", x.gain(2, 1, 1, 1, 0, 0), 0);
    }

    /** Both race for one cell; nobody holds a lot: orders are not asked. */
    private static OilTown shared(int oil) {
        OilTown x = Due.withPersons(3);
        x.field(1, 1);
        x.cell(0, 0, 0, 0, oil);
        x.spot(0, 0);
        x.spot(1, 0);
        return x;
    }

    private static void gains(OilTown x, int will, int cost, int hours, int[][] want) {
        for (int set = 0; set < want.length; set++) {
            for (int p = 0; p < want[set].length; p++) {
                due.is("gain(.., " + set + ", " + p + ")", x.gain(want[set].length, will, cost, hours, set, p),
                        want[set][p]);
            }
        }
    }

    private static void steady(OilTown x, int n, int will, int cost, int hours, int... want) {
        for (int what = 0; what < 4; what++) {
            due.is("steady(.., " + what + ")", x.steady(n, will, cost, hours, what), want[what]);
        }
    }

    private static void oneCellForTwo() {
        OilTown x = shared(100);
        // two hours: alone 60; both: 30 and 30, 30 and 10
        gains(x, 30, 50, 2, new int[][] {{0, 0}, {10, 0}, {0, 10}, {10, -10}});
        steady(x, 2, 30, 50, 2, 1, 1, 1, 1);
        due.is("always more", x.must(2, 30, 50, 2, 0), 2);
        due.is("not if the other does", x.must(2, 30, 50, 2, 1), 0);
        gains(x, 30, 50, 2, new int[][] {{0}, {10}});
        due.is("alone", x.must(1, 30, 50, 2, 0), 2);
        steady(x, 1, 30, 50, 2, 1, 1, 1, 1);
        steady(x, 1, 30, 70, 2, 1, 0, 0, 0);
    }

    private static void neverLess() {
        OilTown x = shared(100);
        gains(x, 30, 40, 2, new int[][] {{0, 0}, {20, 0}, {0, 20}, {20, 0}});
        steady(x, 2, 30, 40, 2, 2, 1, 1, 1);
        due.is("always more", x.must(2, 30, 40, 2, 0), 2);
        due.is("never less, once more", x.must(2, 30, 40, 2, 1), 1);
    }

    private static void nothingToGain() {
        OilTown x = shared(0);
        steady(x, 2, 60, 0, 24, 4, 0, 0, 0);
        due.is("never less, never more", x.must(2, 60, 0, 24, 0), 0);
        steady(x, 2, 60, 1, 24, 1, 0, 0, 0);
        due.is("always less", x.must(2, 60, 1, 24, 0), 0);
        x.cell(0, 0, 0, 50, 50);
        due.is("half of it is water", x.gain(1, 11, 0, 1, 1, 0), 5);
    }

    private static void noSetIsSteady() {
        OilTown x = shared(130);
        x.lay(0, 0);
        x.owner(0, 0);
        x.drill(0, 0, 40);
        x.drill(0, 0, 50);
        gains(x, 40, 22, 5, new int[][] {{130, 0}, {108, 0}, {90, 18}, {108, -22}});
        steady(x, 2, 40, 22, 5, 0, OilTown.NONE, OilTown.NONE, 0);
        due.is("sometimes less", x.must(2, 40, 22, 5, 0), 0);
    }

    private static void wellsThatStand() {
        OilTown x = shared(100);
        x.lay(0, 0);
        x.owner(0, 2);
        x.drill(2, 0, 45);
        due.is("a well that stands is ahead", x.gain(2, 60, 0, 1, 1, 0), 55);
        due.is("nothing is left", x.gain(2, 60, 0, 1, 3, 1), 0);
        x.open(0, false);
        due.is("it is shut", x.gain(2, 60, 0, 1, 3, 1), 40);
        Due.orders(x, "apart 9; shut;");
        due.is("orders are not asked", x.gain(2, 60, 0, 1, 3, 0), 60);
        x.open(0, true);
        x.owner(0, 0);
        Due.orders(x, "");
        for (int k = 1; k < 10; k++) {
            x.drill(0, 0, 1);
        }
        due.is("ten stand", x.count(5), 10);
        due.is("nine of its own, and one more", x.gain(2, 60, 5, 1, 1, 0), 9 + 46 - 5);
    }

    private static void fourRace() {
        OilTown x = Due.withPersons(4);
        x.field(2, 2);
        for (int p = 0; p < 4; p++) {
            x.cell(p, 0, 0, 0, 10 * (p + 1));
            x.spot(p, p);
        }
        gains(x, 60, 25, 1, new int[][] {
            {0, 0, 0, 0}, {-15, 0, 0, 0}, {0, -5, 0, 0}, {-15, -5, 0, 0}, {0, 0, 5, 0}, {-15, 0, 5, 0}, {0, -5, 5, 0},
            {-15, -5, 5, 0}, {0, 0, 0, 15}, {-15, 0, 0, 15}, {0, -5, 0, 15}, {-15, -5, 0, 15}, {0, 0, 5, 15},
            {-15, 0, 5, 15}, {0, -5, 5, 15}, {-15, -5, 5, 15}
        });
        steady(x, 4, 60, 25, 1, 1, 12, 12, 12);
        steady(x, 4, 60, 20, 1, 2, 12, 12, 12);
        int[] must = {0, 0, 2, 2};
        for (int p = 0; p < 4; p++) {
            due.is("must(.., " + p + ")", x.must(4, 60, 20, 1, p), must[p]);
        }
        steady(x, 3, 60, 25, 1, 1, 4, 4, 4);
    }

    private static void flowsInARace() {
        OilTown x = Due.withPersons(1);
        x.field(2, 1);
        x.cell(0, 8, 0, 0, 0);
        x.cell(1, 8, 0, 0, 100);
        x.spot(0, 0);
        due.is("nothing in the first hour", x.gain(1, 60, 0, 1, 1, 0), 0);
        due.is("20 in the second", x.gain(1, 60, 0, 2, 1, 0), 20);
        due.is("16 in the third", x.gain(1, 60, 0, 3, 1, 0), 36);
    }

    private static void waterInARace() {
        OilTown x = Due.withPersons(1);
        x.field(2, 1);
        x.cell(0, 8, 0, 60, 40);
        x.cell(1, 8, 0, 0, 0);
        x.spot(0, 0);
        // 40 up: 16 of oil, 24 of water; 60 * 8 / 40 = 12 go, 4 of 24 and 7 of 36; 20 and 29 stay: 40 of 49
        due.is("water comes up and flows too", x.gain(1, 40, 0, 2, 1, 0), 16 + 16);
        x.spot(0, 1);
        // 8 of oil and 12 of water come: all up; then 80 * 8 / 40 = 16 of 32 and 48: 6 and 9
        due.is("water flows to it", x.gain(1, 60, 0, 3, 1, 0), 8 + 6);
        x.cell(0, 8, 0, 0, 50);
        x.cell(1, 8, 0, 0, 0);
        due.is("from the first cell", x.gain(1, 60, 0, 2, 1, 0), 10);
    }

    /** On new objects, so that no call ahead has run the race. */
    private static void mustAlone() {
        due.is("must of a new object", shared(100).must(2, 30, 50, 2, 0), 2);
        due.is("steady of a new object", shared(100).steady(2, 30, 50, 2, 1), 1);
        OilTown x = shared(100);
        x.gain(1, 1, 999, 24, 1, 0);
        due.is("not what was raced ahead", x.must(2, 30, 40, 2, 1), 1);
        x.cell(0, 0, 0, 0, 0);
        due.is("not the field that was", x.must(2, 30, 40, 2, 0), 0);
        due.is("not the field that was", x.steady(2, 30, 40, 2, 0), 1);
        due.is("not the field that was", x.steady(2, 30, 40, 2, 3), 0);
    }

    private static void nothingChanges() {
        OilTown x = shared(100);
        x.lay(0, 0);
        x.owner(0, 0);
        x.drill(0, 0, 5);
        x.gain(2, 30, 5, 9, 3, 0);
        x.steady(2, 30, 5, 9, 2);
        x.must(2, 30, 5, 9, 1);
        due.is("oil", x.cellOf(0, 3), 100);
        due.is("hour", x.count(7), 0);
        due.is("wells", x.count(5), 1);
        due.is("tanks", x.count(8), 0);
        due.is("drawn", x.wellOf(0, 4), 0);
        due.is("an hour", x.hour(), 5);
    }
}
