/** Part 2 of the document, RACE, GAIN and STEADY: each sentence at its edges. */
public final class SentencesOfRacesTest {
    private static final int NONE = OilTown.NONE, BAD = OilTown.BAD, STATE = OilTown.STATE;
    private static final Due due = new Due("SentencesOfRacesTest");

    public static void main(String[] args) {
        spotsAtFirst();
        spotsOfTheFirstAlone();
        spotThatIsNotThere();
        hoursOfARace();
        willAndCost();
        costOnlyIfItDrills();
        setsByBits();
        inOrderOfPersons();
        behindAllOthers();
        wellsOfThoseWhoStandBy();
        wellsOfTheLastPerson();
        wellsThatAreShut();
        ordersAreNotAsked();
        elevenWells();
        racesBehindTheLastHour();
        flowsGoOnInARace();
        flowsOfARaceAddUp();
        flowsOfARaceOnTwoSides();
        flowsOfARaceEnd();
        racesInTheLargestField();
        racesOfManyWells();
        gainMayBeBelowZero();
        steadyIfNobodyGainsMore();
        steadyIfAsMuch();
        noneSteady();
        richestOfSeveral();
        richestThatIsNotSteady();
        mustAlways();
        mustNeverLess();
        mustSometimesLess();
        mustOfOneAlone();
        mustNotTheFirst();
        nothingIsChanged();
        due.end();
    }

    /** One cell of no LOT, that all these persons have as their SPOT. */
    private static OilTown shared(int persons, int oil) {
        OilTown x = Due.withPersons(persons);
        x.field(1, 1);
        x.cell(0, 0, 0, 0, oil);
        for (int p = 0; p < persons; p++) {
            x.spot(p, 0);
        }
        return x;
    }

    /** Cells without flows, one for each, with so much OIL. */
    private static OilTown apart(int... oil) {
        OilTown x = Due.withPersons(oil.length);
        x.field(oil.length, 1);
        for (int p = 0; p < oil.length; p++) {
            x.cell(p, 0, 0, 0, oil[p]);
            x.spot(p, p);
        }
        return x;
    }

    /** "A PERSON's SPOT is a CELL: what it was (NONE, at first)." */
    private static void spotsAtFirst() {
        OilTown x = Due.withPersons(6);
        for (int p = 0; p < 6; p++) {
            due.is("at first", x.spot(p, 8), NONE);
            due.is("what it was", x.spot(p, p), 8);
        }
        for (int p = 0; p < 6; p++) {
            due.is("each has its own", x.spot(p, p), p);
        }
    }

    /** "a PERSON of the first n has no SPOT". */
    private static void spotsOfTheFirstAlone() {
        OilTown x = Due.withPersons(5);
        for (int n = 1; n <= 4; n++) {
            due.is("the last of " + n + " has none", x.gain(n, 0, 0, 1, 0, 0), -100002);
            due.is("the last of " + n + " has none", x.steady(n, 0, 0, 1, 0), STATE);
            due.is("the last of " + n + " has none", x.must(n, 0, 0, 1, 0), STATE);
            x.spot(n - 1, 0);
            due.is("all of " + n + " have", x.gain(n, 0, 0, 1, 0, 0), 0);
            due.is("all of " + n + " have", x.steady(n, 0, 0, 1, 0), 1 << n);
            due.is("all of " + n + " have", x.must(n, 0, 0, 1, 0), 0);
        }
        due.is("though it does not drill", withoutTheFirst().gain(2, 0, 0, 1, 2, 1), -100002);
    }

    private static OilTown withoutTheFirst() {
        OilTown x = Due.withPersons(2);
        x.spot(1, 0);
        return x;
    }

    /** "(or none that is there)"; "SPOTS stay". */
    private static void spotThatIsNotThere() {
        OilTown x = Due.withPersons(1);
        x.spot(0, 8);
        x.field(2, 4);
        due.is("8 of 8 CELLS", x.gain(1, 0, 0, 1, 0, 0), -100002);
        due.is("8 of 8 CELLS", x.steady(1, 0, 0, 1, 3), STATE);
        due.is("8 of 8 CELLS", x.must(1, 0, 0, 1, 0), STATE);
        x.field(3, 3);
        due.is("8 of 9 CELLS", x.gain(1, 0, 0, 1, 0, 0), 0);
        x.field(1, 1);
        due.is("what it was, though it is not there", x.spot(0, 0), 8);
        due.is("0 of 1 CELL", x.gain(1, 0, 0, 1, 0, 0), 0);
    }

    /** "for so many HOURS (1 to 24)". */
    private static void hoursOfARace() {
        OilTown x = shared(1, 999);
        for (int hours = 1; hours <= 24; hours++) {
            due.is(hours + " HOURS", x.gain(1, 1, 0, hours, 1, 0), hours);
            due.is(hours + " HOURS", x.gain(1, 60, 0, hours, 1, 0), Math.min(999, 60 * hours));
        }
        due.is("no HOUR", x.gain(1, 1, 0, 0, 1, 0), -100000);
        due.is("25 HOURS", x.gain(1, 1, 0, 25, 1, 0), -100000);
    }

    private static void willAndCost() {
        OilTown x = shared(1, 999);
        due.is("no WILL, no COST", x.gain(1, 0, 0, 24, 1, 0), 0);
        due.is("WILL 60, no COST", x.gain(1, 60, 0, 1, 1, 0), 60);
        due.is("no WILL, COST 999", x.gain(1, 0, 999, 1, 1, 0), -999);
        due.is("WILL 60, COST 999", x.gain(1, 60, 999, 24, 1, 0), 0);
        due.is("WILL 60, COST 998", x.gain(1, 60, 998, 24, 1, 0), 1);
    }

    /** "less COST, if it DRILLS". */
    private static void costOnlyIfItDrills() {
        OilTown x = Towns.oneCell(2, 999, 0);
        x.drill(0, 0, 10);
        x.spot(0, 0);
        x.spot(1, 0);
        due.is("its WELL, without COST", x.gain(2, 20, 5, 3, 0, 0), 30);
        due.is("another DRILLS", x.gain(2, 20, 5, 3, 2, 0), 30);
        due.is("it DRILLS: COST once", x.gain(2, 20, 5, 3, 1, 0), 85);
        due.is("neither WELL nor COST", x.gain(2, 20, 5, 3, 1, 1), 0);
    }

    private static void setsByBits() {
        OilTown x = apart(1, 2, 4, 8);
        for (int set = 0; set < 16; set++) {
            for (int p = 0; p < 4; p++) {
                due.is("set " + set + ", " + p, x.gain(4, 60, 0, 1, set, p), set & 1 << p);
            }
        }
        for (int n = 1; n <= 4; n++) {
            due.is("all of " + n, x.gain(n, 60, 0, 1, (1 << n) - 1, n - 1), 1 << n - 1);
            due.is("a bit more than " + n, x.gain(n, 60, 0, 1, 1 << n, 0), -100000);
            due.is("a bit more than " + n, x.gain(n, 60, 0, 1, 1 << n | 1, 0), -100000);
            due.is("a PERSON more than " + n, x.gain(n, 60, 0, 1, 0, n), -100000);
        }
        due.is("the bit of the sign", x.gain(4, 60, 0, 1, Integer.MIN_VALUE, 0), -100000);
        due.is("all bits", x.gain(4, 60, 0, 1, -1, 0), -100000);
    }

    /** "in order of PERSONS". */
    private static void inOrderOfPersons() {
        OilTown x = shared(4, 70);
        int[] all = {30, 30, 10, 0};
        int[] others = {0, 30, 30, 10};
        for (int p = 0; p < 4; p++) {
            due.is("all DRILL", x.gain(4, 30, 0, 1, 15, p), all[p]);
            due.is("all but the first", x.gain(4, 30, 0, 1, 14, p), others[p]);
        }
    }

    /** "behind all others": WELLS as they are draw first. */
    private static void behindAllOthers() {
        OilTown x = Towns.oneCell(2, 70, 0);
        x.drill(0, 0, 50);
        x.spot(0, 0);
        x.spot(1, 0);
        due.is("20 are left", x.gain(2, 30, 0, 1, 2, 1), 20);
        due.is("of its WELL", x.gain(2, 30, 0, 1, 2, 0), 50);
        due.is("both DRILL", x.gain(2, 30, 0, 1, 3, 0), 70);
        due.is("both DRILL", x.gain(2, 30, 0, 1, 3, 1), 0);
    }

    private static void wellsOfThoseWhoStandBy() {
        OilTown x = Towns.oneCell(2, 70, 0);
        x.owner(0, 1);
        x.drill(1, 0, 50);
        x.spot(0, 0);
        due.is("one who does not race draws too", x.gain(1, 30, 0, 1, 1, 0), 20);
        due.is("none comes to its TANK", x.gain(1, 30, 0, 1, 0, 0), 0);
    }

    /** "with all WELLS as they are": of the last PERSON too, who can not race. */
    private static void wellsOfTheLastPerson() {
        OilTown x = Towns.oneCell(6, 70, 0);
        x.owner(0, 5);
        x.drill(5, 0, 45);
        for (int p = 0; p < 6; p++) {
            x.spot(p, 0);
        }
        due.is("25 are left", x.gain(4, 60, 0, 1, 8, 3), 25);
        due.is("none of it is the fourth's", x.gain(4, 60, 0, 1, 0, 3), 0);
        due.is("a PERSON that can not race", x.gain(4, 60, 0, 1, 0, 5), -100000);
    }

    private static void wellsThatAreShut() {
        OilTown x = Towns.oneCell(1, 70, 0);
        x.drill(0, 0, 50);
        x.spot(0, 0);
        x.open(0, false);
        due.is("as they are: shut", x.gain(1, 30, 0, 2, 0, 0), 0);
        due.is("the one more is open", x.gain(1, 30, 0, 2, 1, 0), 60);
        x.open(0, true);
        due.is("as they are: open", x.gain(1, 30, 0, 2, 0, 0), 70);
        x.will(0, 1);
        due.is("as they are: of WILL 1", x.gain(1, 30, 0, 2, 0, 0), 2);
    }

    private static void ordersAreNotAsked() {
        OilTown x = shared(2, 70);
        Due.orders(x, "near 9; apart 9; each 0; acre 0; shut;");
        due.is("nobody HOLDS it, two in one CELL, shut", x.gain(2, 30, 0, 1, 3, 1), 30);
        due.is("HOT barrels", x.count(10), 0);
    }

    /** "one WELL more", though ten stand. */
    private static void elevenWells() {
        OilTown x = Towns.oneCell(4, 999, 0);
        for (int k = 0; k < 10; k++) {
            x.drill(0, 0, 1);
        }
        for (int p = 0; p < 4; p++) {
            x.spot(p, 0);
        }
        due.is("eleven", x.gain(4, 30, 0, 1, 1, 0), 40);
        due.is("fourteen", x.gain(4, 30, 0, 1, 15, 3), 30);
        due.is("ten stand", x.count(5), 10);
    }

    private static void racesBehindTheLastHour() {
        OilTown x = shared(1, 999);
        Towns.hours(x, 199);
        due.is("hour()", x.hour(), OilTown.FULL);
        due.is("24 HOURS", x.gain(1, 2, 0, 24, 1, 0), 48);
        due.is("THE HOUR", x.count(7), 199);
    }

    private static void flowsGoOnInARace() {
        OilTown x = Due.withPersons(2);
        x.field(2, 1);
        x.cell(0, 8, 0, 0, 100);
        x.cell(1, 8, 0, 0, 0);
        x.spot(0, 0);
        x.spot(1, 1);
        int[] gains = {0, 20, 36, 48};
        for (int hours = 1; hours <= 4; hours++) {
            due.is("beside it, " + hours + " HOURS", x.gain(2, 60, 0, hours, 2, 1), gains[hours - 1]);
        }
        due.is("from the field as it is each time", x.gain(2, 60, 0, 1, 2, 1), 0);
        due.is("60 up, 40 by 5 flow, 32 up", x.gain(2, 60, 0, 2, 3, 0), 92);
        due.is("8 flowed", x.gain(2, 60, 0, 2, 3, 1), 8);
    }

    /** What flows to a CELL from both sides comes to what is there. */
    private static void flowsOfARaceAddUp() {
        OilTown x = Due.withPersons(1);
        x.field(3, 1);
        x.cell(0, 8, 0, 0, 100);
        x.cell(1, 8, 0, 0, 50);
        x.cell(2, 8, 0, 0, 100);
        x.spot(0, 1);
        // 50: 30 up, 20 left, 80 / 5 = 16 and 16 come
        due.is("30 and 30", x.gain(1, 30, 0, 2, 1, 0), 60);
        // 50: 40 up, 10 left, 90 / 5 = 18 and 18 come; 46: 40 up, 6 left, (82 - 6) / 5 = 15 and 15 come
        due.is("40, 40 and 36", x.gain(1, 40, 0, 3, 1, 0), 116);
        x.cell(0, 8, 0, 100, 0);
        x.cell(2, 8, 0, 100, 0);
        // 10 of OIL left, 18 and 18 of WATER come: 40 of 46, of them 40 * 10 / 46 = 8 of OIL
        due.is("WATER adds up too", x.gain(1, 40, 0, 2, 1, 0), 48);
    }

    private static void flowsOfARaceOnTwoSides() {
        OilTown x = Due.withPersons(1);
        x.field(3, 1);
        x.cell(0, 8, 0, 0, 100);
        x.cell(1, 8, 0, 0, 0);
        x.cell(2, 8, 0, 0, 200);
        x.spot(0, 1);
        // 20 and 40 come; 60 up, 80 / 5 = 16 and 160 / 5 = 32 come; 48 up, 64 / 5 = 12 and 128 / 5 = 25 come; 37 up
        int[] gains = {0, 60, 108, 145};
        for (int hours = 1; hours <= 4; hours++) {
            due.is("from both sides, " + hours + " HOURS", x.gain(1, 60, 0, hours, 1, 0), gains[hours - 1]);
        }
    }

    private static void racesInTheLargestField() {
        OilTown x = Due.withPersons(1);
        x.field(6, 6);
        for (int c : new int[] {29, 34, 35}) {
            x.cell(c, 8, 0, 0, c == 35 ? 100 : 0);
        }
        for (int c : new int[] {23, 28, 33}) {
            x.cell(c, 0, 0, 0, 0);
        }
        x.spot(0, 35);
        due.is("the last CELL", x.gain(1, 60, 0, 1, 1, 0), 60);
        due.is("8 and 8 flow, 24 up", x.gain(1, 60, 0, 2, 1, 0), 84);
        x.spot(0, 34);
        due.is("left of it", x.gain(1, 60, 0, 2, 1, 0), 20);
        x.spot(0, 29);
        due.is("above it", x.gain(1, 60, 0, 2, 1, 0), 20);
        x.cell(35, 8, 40, 60, 0);
        due.is("GAS and WATER alone", x.gain(1, 60, 0, 2, 1, 0), 0);
        x.cell(35, 8, 40, 30, 30);
        due.is("20 of them, half OIL", x.gain(1, 60, 0, 2, 1, 0), 10);
    }

    /** "with all WELLS as they are": each of its own PERSON, CELL and WILL, open or shut. */
    private static void racesOfManyWells() {
        OilTown x = Due.withPersons(4);
        x.field(4, 1);
        for (int p = 0; p < 4; p++) {
            x.lay(p, p);
            x.owner(p, p);
            x.cell(p, 0, 0, 0, 50 + p);
            x.spot(p, 3 - p);
        }
        x.drill(3, 3, 9);
        x.drill(0, 0, 20);
        x.drill(1, 1, 30);
        x.drill(2, 2, 40);
        x.open(2, false);
        int[] none = {20, 0, 40, 9};
        int[] all = {20 + 44, 12, 40 + 51, 9 + 30};
        for (int p = 0; p < 4; p++) {
            due.is("nobody DRILLS: " + p, x.gain(4, 60, 0, 1, 0, p), none[p]);
            due.is("all DRILL: " + p, x.gain(4, 60, 0, 1, 15, p), all[p]);
        }
        x.open(0, false);
        x.open(2, true);
        int[] turned = {20, 30, 40, 0};
        for (int p = 0; p < 4; p++) {
            due.is("others are open: " + p, x.gain(4, 60, 0, 1, 0, p), turned[p]);
        }
    }

    /** A flow that is wanted no more in a later HOUR does not go on, while another does. */
    private static void flowsOfARaceEnd() {
        OilTown x = Due.withPersons(1);
        x.field(5, 1);
        int[] oil = {200, 0, 0, 0, 5};
        for (int c = 0; c < 5; c++) {
            x.cell(c, c == 2 ? 0 : 8, 0, 0, oil[c]);
        }
        x.spot(0, 3);
        int[] gains = {0, 1, 1, 1, 1};
        for (int hours = 1; hours <= 5; hours++) {
            due.is("one barrel, " + hours + " HOURS", x.gain(1, 60, 0, hours, 1, 0), gains[hours - 1]);
        }
    }

    private static void gainMayBeBelowZero() {
        OilTown x = apart(4);
        due.is("4 less 8", x.gain(1, 60, 8, 1, 1, 0), -4);
        due.is("4 less 5", x.gain(1, 60, 5, 1, 1, 0), -1);
        due.is("4 less 4", x.gain(1, 60, 4, 1, 1, 0), 0);
        due.is("none less 999", apart(0).gain(1, 60, 999, 1, 1, 0), -999);
    }

    private static void steady(String when, OilTown x, int n, int will, int cost, int hours, int... want) {
        for (int what = 0; what < 4; what++) {
            due.is(when + ": steady of " + what, x.steady(n, will, cost, hours, what), want[what]);
        }
    }

    /** "a set by which no PERSON of these would GAIN more by doing otherwise alone". */
    private static void steadyIfNobodyGainsMore() {
        steady("one gains", apart(10), 1, 60, 9, 1, 1, 1, 1, 1);
        steady("one loses", apart(10), 1, 60, 11, 1, 1, 0, 0, 0);
        steady("one of two gains", apart(10, 20), 2, 60, 15, 1, 1, 2, 2, 2);
        steady("the other of two", apart(20, 10), 2, 60, 15, 1, 1, 1, 1, 1);
        steady("four gain", apart(5, 6, 7, 8), 4, 60, 4, 1, 1, 15, 15, 15);
        steady("the last of four gains", apart(5, 6, 7, 8), 4, 60, 7, 1, 2, 8, 8, 8);
    }

    private static void steadyIfAsMuch() {
        steady("as much by either", apart(10), 1, 60, 10, 1, 2, 0, 0, 0);
        steady("nothing to gain, no COST", shared(4, 0), 4, 60, 0, 1, 16, 0, 0, 0);
        steady("no WILL, no COST", shared(4, 99), 4, 0, 0, 24, 16, 0, 0, 0);
        steady("as much for one, more for another", apart(10, 20), 2, 60, 10, 1, 2, 2, 2, 2);
    }

    /** "NONE (1, 2): no set is". */
    private static void noneSteady() {
        OilTown x = Towns.oneCell(2, 130, 0);
        x.drill(0, 0, 40);
        x.drill(0, 0, 50);
        x.spot(0, 0);
        x.spot(1, 0);
        // 5 HOURS, COST 22: none 130, 0; the first 108, 0; the second 90, 18; both 108, -22
        steady("no set", x, 2, 40, 22, 5, 0, NONE, NONE, 0);
    }

    /** "of several the least". */
    private static void richestOfSeveral() {
        steady("who of two", shared(2, 60), 2, 60, 50, 1, 1, 1, 1, 1);
        // two HOURS: one alone 100 - 40; both 60 - 40 and 40 - 40
        steady("one or both", shared(2, 100), 2, 60, 40, 2, 2, 1, 1, 1);
        steady("one, the other or both", shared(2, 100), 2, 50, 0, 2, 1, 3, 3, 1);
    }

    /** "the set, STEADY or not, with the greatest sum". */
    private static void richestThatIsNotSteady() {
        OilTown x = shared(2, 100);
        // 5 HOURS, WILL 10: one alone 50 - 5; both 50 - 5 each; 10 HOURS: 100 - 5; 50 - 5 each
        steady("there is enough for both", x, 2, 10, 5, 5, 1, 3, 3, 3);
        steady("both DRILL, one alone were richer", x, 2, 10, 5, 10, 1, 3, 3, 1);
        steady("nobody or one of them DRILLS, at that COST", x, 2, 10, 100, 10, 3, 0, 0, 0);
    }

    /** "Whether a PERSON GAINS more by DRILLING whatever the others do (2)". */
    private static void mustAlways() {
        OilTown x = apart(5, 6, 7, 8);
        int[] must = {0, 0, 2, 2};
        for (int p = 0; p < 4; p++) {
            due.is("must of " + p, x.must(4, 60, 6, 1, p), must[p]);
        }
        due.is("by one barrel", apart(5).must(1, 60, 4, 1, 0), 2);
        due.is("by none", apart(5).must(1, 60, 5, 1, 0), 0);
        due.is("by one less", apart(5).must(1, 60, 6, 1, 0), 0);
    }

    /** "never less, sometimes more (1), else 0". */
    private static void mustNeverLess() {
        due.is("the first always gains", shared(2, 60).must(2, 60, 0, 1, 0), 2);
        due.is("the second if the first does not", shared(2, 60).must(2, 60, 0, 1, 1), 1);
        due.is("the fourth if nobody does", shared(4, 60).must(4, 60, 0, 1, 3), 1);
        due.is("one barrel more if the first does not", shared(2, 1).must(2, 60, 0, 1, 1), 1);
        due.is("never more", shared(2, 0).must(2, 60, 0, 1, 1), 0);
    }

    private static void mustSometimesLess() {
        due.is("less if the first does", shared(2, 60).must(2, 60, 1, 1, 1), 0);
        due.is("less if any does", shared(4, 100).must(4, 60, 41, 1, 3), 0);
        due.is("more if nobody or one does", shared(4, 100).must(4, 60, 39, 1, 1), 2);
        due.is("as much if one does", shared(4, 100).must(4, 60, 40, 1, 1), 1);
        due.is("always less", apart(5).must(1, 60, 999, 24, 0), 0);
    }

    private static void mustOfOneAlone() {
        due.is("one", apart(5).must(1, 60, 0, 1, 0), 2);
        due.is("one of two, who stands by", shared(2, 60).must(1, 60, 59, 1, 0), 2);
        due.is("the second does not race", shared(2, 60).must(1, 60, 59, 1, 1), BAD);
    }

    private static void mustNotTheFirst() {
        OilTown x = apart(1, 9, 1, 1);
        for (int n = 2; n <= 4; n++) {
            due.is("the second of " + n, x.must(n, 60, 5, 1, 1), 2);
            due.is("the first of " + n, x.must(n, 60, 5, 1, 0), 0);
            due.is("the last of " + n, x.must(n, 60, 5, 1, n - 1), n == 2 ? 2 : 0);
        }
    }

    private static void nothingIsChanged() {
        Edges edges = new Edges(due);
        Towns.Maker busy = Towns::busy;
        edges.unchanged("gain", busy, x -> x.gain(4, 60, 5, 24, 15, 3));
        edges.unchanged("steady", busy, x -> x.steady(4, 60, 5, 24, 2));
        edges.unchanged("must", busy, x -> x.must(4, 60, 5, 24, 3));
    }
}
