import java.util.Arrays;

/** An oil field drunk through many straws. The document's numbered promises say what each call does. */
public final class OilTown {
    public static final int BAD = -1, STATE = -2, FULL = -3, NONE = -4;

    /** Where a call's own answers may be BAD's or STATE's number, the document tells these instead. */
    private static final int BAD_NAME = -5, BAD_SUM = -100000, STATE_SUM = -100002;

    private static final int MAX_SIDE = 6, MAX_CELLS = 36, LOTS = 8, NO_LOT = 8, PLACES = 9, SIDES = 4, MAX_FLOWS = 144;
    private static final int MAX_SAND = 9, MAX_TOLD = 999, MAX_WILL = 60, RESISTANCE = 40, FAR = 99;
    private static final int MAX_PERSONS = 6, MAX_LEASES = 12, MAX_WELLS = 10, MAX_FIELDS = 3;
    private static final int LAST_HOUR = 199, SHIFTS = 50, SHIFT_HOURS = 4;
    private static final int FULL_PRICE = 100, LEAST_PRICE = 4, PRICE_STEP = 5;
    private static final int MAX_BYTES = 160, MAX_LINES = 12, FARTHEST_TOLD = 9;
    private static final int RACERS = 4, SETS = 16, RACE_HOURS = 24;
    private static final int SHEETS = 4, MAX_SHEET = 72;

    /** "10 and l": from this number on a call's `what` names a place of a row by lots. */
    private static final int BY_LOT = 10;

    /** Answers that tell a fault (of a text, of a machine) lie below this one. */
    private static final int FAULTS = -10, OUT_OF_BOUNDS = -100;
    private static final int NULL_FAULT = 1, INDEX_FAULT = 2, CAST_FAULT = 3, SIZE_FAULT = 4;

    private static final int BYTES = 0, SHORTS = 1, INTS = 2;

    /** The rules bear the numbers that line() answers; the other tokens follow them. */
    private static final int NEAR = 0, APART = 1, EACH = 2, ACRE = 3, SHUT = 4, EXCEPT = 5;
    private static final int FROM = 6, NUMBER = 7, SEMICOLON = 8, ENDING = 9;

    private static final int NO_TOKEN = 1, MISPLACED = 2, OUT_OF_RANGE = 3, TOO_MANY = 4, TOLD_ALREADY = 5;

    private static final int MAY = 0, NOT_HELD = 1, TOO_NEAR = 2, NOT_APART = 3;

    private final Town now = new Town();
    private final Town[] kept = new Town[MAX_FIELDS];
    private int keptSize;
    private int persons;
    private final int[] spots = new int[MAX_PERSONS];
    private final Tape tape = new Tape();
    private final Orders law = new Orders();
    private final Currents currents = new Currents();
    private final Race race = new Race();
    private final Sheet[] sheets = new Sheet[SHEETS];

    public OilTown() {
        Arrays.fill(spots, NONE);
        for (int k = 0; k < SHEETS; k++) {
            sheets[k] = new Sheet();
        }
    }

    // ---- the field

    public int field(int w, int h) {
        if (w < 1 || w > MAX_SIDE || h < 1 || h > MAX_SIDE) {
            return BAD;
        }
        now.becomeNew(w, h);
        return 1;
    }

    public int cell(int c, int sand, int gas, int water, int oil) {
        if (!hasCell(c) || !within(sand, MAX_SAND) || !within(gas, MAX_TOLD)
                || !within(water, MAX_TOLD) || !within(oil, MAX_TOLD)) {
            return BAD;
        }
        Pool pool = now.ground.pool;
        pool.sand[c] = sand;
        pool.gas[c] = gas;
        pool.water[c] = water;
        now.ground.tellOil(c, oil);
        return 1;
    }

    public int lay(int c, int l) {
        if (!hasCell(c) || l != NONE && !isLot(l)) {
            return BAD;
        }
        int was = now.ground.lotOf[c];
        now.ground.lotOf[c] = l;
        return was;
    }

    public int cellOf(int c, int what) {
        if (!hasCell(c)) {
            return BAD;
        }
        Pool pool = now.ground.pool;
        switch (what) {
            case 0: return pool.sand[c];
            case 1: return pool.gas[c];
            case 2: return pool.water[c];
            case 3: return pool.oil[c];
            case 4: return now.ground.lotOf[c];
            case 5: return pool.push(c);
            default: return isByLot(what) ? now.ground.oilByLot[c * PLACES + what - BY_LOT] : BAD;
        }
    }

    public int hour() {
        if (now.hour >= LAST_HOUR) {
            return FULL;
        }
        return now.letHourGo(currents);
    }

    // ---- persons, lots

    public int person() {
        if (persons >= MAX_PERSONS) {
            return FULL;
        }
        persons++;
        return persons - 1;
    }

    public int owner(int l, int p) {
        if (!isLot(l) || p != NONE && !isPerson(p)) {
            return BAD_NAME;
        }
        int was = now.deeds.ownerOf[l];
        now.deeds.ownerOf[l] = p;
        return was;
    }

    public int lease(int l, int p, int until, int stamp) {
        if (!isLot(l) || !isPerson(p) || until < 1 || until > LAST_HOUR || !within(stamp, MAX_TOLD)) {
            return BAD;
        }
        return now.deeds.add(l, p, until, stamp);
    }

    public int leaseOf(int k, int what) {
        Deeds deeds = now.deeds;
        if (k < 0 || k >= deeds.size) {
            return BAD;
        }
        switch (what) {
            case 0: return deeds.lot[k];
            case 1: return deeds.person[k];
            case 2: return deeds.until[k];
            case 3: return deeds.stamp[k];
            case 4: return now.hasEnded(k) ? 1 : 0;
            default: return BAD;
        }
    }

    public int holds(int l) {
        return isLot(l) ? now.holderOf(l) : BAD;
    }

    public int told(int p, int what) {
        if (!isPerson(p)) {
            return BAD;
        }
        Books books = now.books;
        Wells wells = now.wells;
        switch (what) {
            case 0: return books.tank[p];
            case 1: return books.sold[p];
            case 2: return books.paid[p];
            case 3: return wells.sizeOf(p);
            case 4: return wells.oilOf(p);
            case 5: return law.hotOfPerson(now, p);
            case 6: return Math.max(0, books.sold[p] - (wells.oilOf(p) - law.hotOfPerson(now, p)));
            default: return isByLot(what) ? wells.oilOfLot(p, what - BY_LOT) : BAD;
        }
    }

    // ---- wells

    public int drill(int p, int c, int will) {
        if (!isPerson(p) || !hasCell(c) || !within(will, MAX_WILL)) {
            return BAD;
        }
        if (law.whyNot(now, p, c) != MAY) {
            return STATE;
        }
        return now.wells.add(p, c, will);
    }

    public int why(int p, int c) {
        return isPerson(p) && hasCell(c) ? law.whyNot(now, p, c) : BAD;
    }

    public int will(int k, int v) {
        if (!isWell(k) || !within(v, MAX_WILL)) {
            return BAD;
        }
        int was = now.wells.will[k];
        now.wells.will[k] = v;
        return was;
    }

    public int open(int k, boolean is) {
        if (!isWell(k)) {
            return BAD;
        }
        boolean was = now.wells.isOpen[k];
        now.wells.isOpen[k] = is;
        return was ? 1 : 0;
    }

    public int wellOf(int k, int what) {
        if (!isWell(k)) {
            return BAD;
        }
        Wells wells = now.wells;
        switch (what) {
            case 0: return wells.person[k];
            case 1: return wells.cell[k];
            case 2: return wells.will[k];
            case 3: return wells.isOpen[k] ? 1 : 0;
            case 4: return wells.oil[k];
            case 5: return wells.water[k];
            case 6: return law.hotOfWell(now, k);
            default: return isByLot(what) ? wells.oilByLot[k * PLACES + what - BY_LOT] : BAD;
        }
    }

    public int drew(int k, int shift, int what) {
        if (!isWell(k) || !within(shift, SHIFTS - 1)) {
            return BAD;
        }
        switch (what) {
            case 0: return now.wells.oilByShift[k * SHIFTS + shift];
            case 1: return law.letOf(now, k, shift);
            case 2: return law.hotIn(now, k, shift);
            default: return BAD;
        }
    }

    public int sell(int p, int n) {
        if (!isPerson(p) || n < 1 || n > MAX_TOLD) {
            return BAD;
        }
        if (now.books.tank[p] < n) {
            return STATE;
        }
        return now.books.sellAt(now.shift(), p, n);
    }

    public int price(int shift) {
        return within(shift, now.shift()) ? now.books.priceIn(shift) : BAD;
    }

    // ---- orders

    public int feed(long v) {
        return tape.add(v);
    }

    public int end(int n) {
        if (n < 0 || n > tape.size) {
            return BAD;
        }
        int was = tape.size;
        tape.size = n;
        return was;
    }

    public int orders() {
        tape.read();
        tape.size = 0;
        if (tape.fault != 0) {
            return FAULTS - tape.place;
        }
        law.copyFrom(tape.draft);
        return law.size;
    }

    public int fault() {
        return tape.fault;
    }

    public int line(int k, int what) {
        if (k < 0 || k >= law.size) {
            return BAD;
        }
        switch (what) {
            case 0: return law.rule[k];
            case 1: return law.from[k];
            case 2: return law.number[k];
            case 3: return law.isVoid[k] ? 1 : 0;
            default: return BAD;
        }
    }

    public int voids(int k) {
        if (k < 0 || k >= law.size) {
            return BAD_SUM;
        }
        if (law.isVoid[k]) {
            return STATE_SUM;
        }
        int before = law.hotOfAll(now);
        law.isVoid[k] = true;
        return before - law.hotOfAll(now);
    }

    public int lets(int p, int c, int rule) {
        if (!isPerson(p) || !hasCell(c) || rule != NEAR && rule != APART) {
            return BAD;
        }
        int near = law.numberIn(NEAR, now.shift());
        int apart = law.numberIn(APART, now.shift());
        for (int v = FARTHEST_TOLD; v >= 0; v--) {
            int why = rule == NEAR ? law.whyNotUnder(now, p, c, v, apart) : law.whyNotUnder(now, p, c, near, v);
            if (why == MAY) {
                return v;
            }
        }
        return NONE;
    }

    // ---- races

    public int spot(int p, int c) {
        if (!isPerson(p) || !hasCell(c)) {
            return BAD_NAME;
        }
        int was = spots[p];
        spots[p] = c;
        return was;
    }

    public int gain(int n, int will, int cost, int hours, int set, int p) {
        if (!isRace(n, will, cost, hours) || set < 0 || set >= 1 << n || p < 0 || p >= n) {
            return BAD_SUM;
        }
        if (!haveSpots(n)) {
            return STATE_SUM;
        }
        race.prepare(n, will, cost, hours);
        race.run(now, spots, set);
        return race.gainOf(set, p);
    }

    public int steady(int n, int will, int cost, int hours, int what) {
        if (!isRace(n, will, cost, hours) || what < 0 || what > 3) {
            return BAD;
        }
        if (!haveSpots(n)) {
            return STATE;
        }
        race.prepare(n, will, cost, hours);
        race.runAll(now, spots);
        switch (what) {
            case 0: return race.steadySets();
            case 1: return race.leastSteady();
            case 2: return race.richest(true);
            default: return race.richest(false);
        }
    }

    public int must(int n, int will, int cost, int hours, int p) {
        if (!isRace(n, will, cost, hours) || p < 0 || p >= n) {
            return BAD;
        }
        if (!haveSpots(n)) {
            return STATE;
        }
        race.prepare(n, will, cost, hours);
        race.runAll(now, spots);
        return race.urgeOf(p);
    }

    // ---- fields

    public int keep() {
        if (keptSize >= MAX_FIELDS) {
            return FULL;
        }
        Town copy = new Town();
        copy.copyFrom(now);
        kept[keptSize] = copy;
        keptSize++;
        return keptSize - 1;
    }

    public int stand(int k) {
        if (k < 0 || k >= keptSize) {
            return BAD;
        }
        Town from = kept[k];
        if (from == null) {
            return BAD;
        }
        now.copyFrom(from);
        return 1;
    }

    // ---- sheets

    public int sheet(int k, int lane, int n) {
        if (!isSheet(k) || !isLane(lane) || n > MAX_SHEET) {
            return BAD;
        }
        if (n < 0) {
            return FAULTS - SIZE_FAULT;
        }
        sheets[k].becomeNew(lane, n);
        return 1;
    }

    public int write(int k, int i, int v) {
        if (!isSheet(k)) {
            return BAD;
        }
        Sheet sheet = sheets[k];
        if (sheet.lane == NONE) {
            return FAULTS - NULL_FAULT;
        }
        if (i < 0 || i >= sheet.size) {
            return FAULTS - INDEX_FAULT;
        }
        sheet.put(i, v);
        return 1;
    }

    public int scan(int k, int lane, int f) {
        if (!isSheet(k) || !isLane(lane)) {
            return BAD;
        }
        Sheet sheet = sheets[k];
        if (sheet.lane == NONE) {
            return FAULTS - NULL_FAULT;
        }
        if (sheet.lane != lane) {
            return FAULTS - CAST_FAULT;
        }
        int sum = sheet.sumOf(f, now.ground.pool.size);
        if (sum >= 0) {
            tellOilFrom(sheet, f);
        }
        return sum;
    }

    public int count(int what) {
        switch (what) {
            case 0: return now.ground.pool.size;
            case 1: return now.ground.pool.allOil();
            case 2: return now.ground.pool.allWater();
            case 3: return persons;
            case 4: return now.deeds.size;
            case 5: return now.wells.size;
            case 6: return law.size;
            case 7: return now.hour;
            case 8: return now.books.allInTanks();
            case 9: return now.books.allSold();
            case 10: return law.hotOfAll(now);
            case 11: return keptSize;
            case 12: return tape.size;
            case 13: return sheets[0].lane == NONE ? NONE : sheets[0].size;
            default: return BAD;
        }
    }

    // ---- what calls ask of their numbers

    private static boolean within(int v, int most) {
        return v >= 0 && v <= most;
    }

    private static boolean isLot(int l) {
        return l >= 0 && l < LOTS;
    }

    private static boolean isByLot(int what) {
        return what >= BY_LOT && what < BY_LOT + PLACES;
    }

    private static boolean isSheet(int k) {
        return k >= 0 && k < SHEETS;
    }

    private static boolean isLane(int lane) {
        return lane >= BYTES && lane <= INTS;
    }

    private boolean hasCell(int c) {
        return now.ground.pool.has(c);
    }

    private boolean isPerson(int p) {
        return p >= 0 && p < persons;
    }

    private boolean isWell(int k) {
        return k >= 0 && k < now.wells.size;
    }

    private boolean isRace(int n, int will, int cost, int hours) {
        return n >= 1 && n <= RACERS && n <= persons && within(will, MAX_WILL) && within(cost, MAX_TOLD)
                && hours >= 1 && hours <= RACE_HOURS;
    }

    /** A spot may have been told in a field that was larger. */
    private boolean haveSpots(int n) {
        for (int p = 0; p < n; p++) {
            if (!hasCell(spots[p])) {
                return false;
            }
        }
        return true;
    }

    private void tellOilFrom(Sheet sheet, int f) {
        int size = now.ground.pool.size;
        for (int c = 0; c < size; c++) {
            now.ground.tellOil(c, sheet.rows[f + c]);
        }
    }

    /** What lies in the cells, whoever it is of: all that a race needs. */
    private static final class Pool {
        int wide;
        int high;
        int size;
        final int[] column = new int[MAX_CELLS];
        final int[] row = new int[MAX_CELLS];
        final int[] sand = new int[MAX_CELLS];
        final int[] gas = new int[MAX_CELLS];
        final int[] water = new int[MAX_CELLS];
        final int[] oil = new int[MAX_CELLS];

        void becomeNew(int w, int h) {
            wide = w;
            high = h;
            size = w * h;
            for (int y = 0; y < h; y++) {
                for (int x = 0; x < w; x++) {
                    column[y * w + x] = x;
                    row[y * w + x] = y;
                }
            }
            Arrays.fill(sand, 5);
            Arrays.fill(gas, 0);
            Arrays.fill(water, 0);
            Arrays.fill(oil, 0);
        }

        void copyFrom(Pool other) {
            wide = other.wide;
            high = other.high;
            size = other.size;
            System.arraycopy(other.column, 0, column, 0, MAX_CELLS);
            System.arraycopy(other.row, 0, row, 0, MAX_CELLS);
            System.arraycopy(other.sand, 0, sand, 0, MAX_CELLS);
            System.arraycopy(other.gas, 0, gas, 0, MAX_CELLS);
            System.arraycopy(other.water, 0, water, 0, MAX_CELLS);
            System.arraycopy(other.oil, 0, oil, 0, MAX_CELLS);
        }

        boolean has(int c) {
            return c >= 0 && c < size;
        }

        int liquid(int c) {
            return oil[c] + water[c];
        }

        int push(int c) {
            return oil[c] + water[c] + gas[c];
        }

        /** The cell left (0), right (1), above (2) or below (3), or NONE. */
        int beside(int c, int side) {
            switch (side) {
                case 0: return column[c] > 0 ? c - 1 : NONE;
                case 1: return column[c] < wide - 1 ? c + 1 : NONE;
                case 2: return row[c] > 0 ? c - wide : NONE;
                default: return row[c] < high - 1 ? c + wide : NONE;
            }
        }

        int howFar(int a, int b) {
            return Math.abs(column[a] - column[b]) + Math.abs(row[a] - row[b]);
        }

        int barrelsUnder(int c, int will) {
            return Math.min(will, liquid(c));
        }

        /** How much of n barrels out of a cell is oil. */
        int oilAmong(int c, int n) {
            int all = liquid(c);
            return all <= 0 ? 0 : (int) ((long) n * oil[c] / all);
        }

        int allOil() {
            return sumOverCells(oil);
        }

        int allWater() {
            return sumOverCells(water);
        }

        private int sumOverCells(int[] of) {
            int sum = 0;
            for (int c = 0; c < size; c++) {
                sum += of[c];
            }
            return sum;
        }
    }

    /** The pool with its lots: whose land each cell is, and whose oil lies in it. */
    private static final class Ground {
        final Pool pool = new Pool();
        final int[] lotOf = new int[MAX_CELLS];
        final int[] oilByLot = new int[MAX_CELLS * PLACES];

        void becomeNew(int w, int h) {
            pool.becomeNew(w, h);
            Arrays.fill(lotOf, NONE);
            Arrays.fill(oilByLot, 0);
        }

        void copyFrom(Ground other) {
            pool.copyFrom(other.pool);
            System.arraycopy(other.lotOf, 0, lotOf, 0, MAX_CELLS);
            System.arraycopy(other.oilByLot, 0, oilByLot, 0, MAX_CELLS * PLACES);
        }

        void tellOil(int c, int n) {
            for (int l = 0; l < PLACES; l++) {
                oilByLot[c * PLACES + l] = 0;
            }
            int place = lotOf[c] == NONE ? NO_LOT : lotOf[c];
            oilByLot[c * PLACES + place] = n;
            pool.oil[c] = n;
        }

        /** n barrels leave a cell's oil; taken then tells of which lots they are. */
        void take(int c, int n, int[] taken) {
            int base = c * PLACES;
            int all = pool.oil[c];
            int lacks = n;
            for (int l = 0; l < PLACES; l++) {
                taken[l] = all <= 0 ? 0 : (int) ((long) n * oilByLot[base + l] / all);
                lacks -= taken[l];
            }
            for (int l = 0; l < PLACES; l++) {
                if (lacks > 0 && oilByLot[base + l] > taken[l]) {
                    taken[l]++;
                    lacks--;
                }
                oilByLot[base + l] -= taken[l];
            }
            pool.oil[c] -= n;
        }

        int cellsOf(int l) {
            int cells = 0;
            for (int c = 0; c < pool.size; c++) {
                if (lotOf[c] == l) {
                    cells++;
                }
            }
            return cells;
        }

        /** How far the nearest cell is that is not of the same lot. */
        int strangerFrom(int c) {
            int nearest = FAR;
            for (int other = 0; other < pool.size; other++) {
                if (lotOf[other] != lotOf[c]) {
                    nearest = Math.min(nearest, pool.howFar(c, other));
                }
            }
            return nearest;
        }
    }

    /** The flows of an hour: measured in all cells ahead of any move, so that all move at once. */
    private static final class Currents {
        final int[] taken = new int[PLACES];
        private final long[] wants = new long[SIDES];
        private int size;
        private final int[] from = new int[MAX_FLOWS];
        private final int[] to = new int[MAX_FLOWS];
        private final int[] oil = new int[MAX_FLOWS];
        private final int[] water = new int[MAX_FLOWS];
        private final int[] arrives = new int[MAX_CELLS * PLACES];

        void measure(Pool pool) {
            size = 0;
            for (int c = 0; c < pool.size; c++) {
                if (pool.liquid(c) > 0) {
                    measureCell(pool, c);
                }
            }
        }

        private void measureCell(Pool pool, int c) {
            long sum = 0;
            for (int side = 0; side < SIDES; side++) {
                wants[side] = wantOf(pool, c, pool.beside(c, side));
                sum += wants[side];
            }
            long liquid = pool.liquid(c);
            for (int side = 0; side < SIDES; side++) {
                if (wants[side] > 0) {
                    long goes = sum > liquid && sum > 0 ? wants[side] * liquid / sum : wants[side];
                    add(pool, c, pool.beside(c, side), goes);
                }
            }
        }

        private static long wantOf(Pool pool, int c, int other) {
            if (other == NONE) {
                return 0;
            }
            long more = pool.push(c) - pool.push(other);
            return more <= 0 ? 0 : more * Math.min(pool.sand[c], pool.sand[other]) / RESISTANCE;
        }

        private void add(Pool pool, int c, int other, long goes) {
            long liquid = pool.liquid(c);
            if (liquid <= 0 || size >= MAX_FLOWS) {
                return;
            }
            from[size] = c;
            to[size] = other;
            oil[size] = (int) (goes * pool.oil[c] / liquid);
            water[size] = (int) (goes * pool.water[c] / liquid);
            size++;
        }

        /** Moves what was measured, where nobody asks of which lots the oil is. */
        void movePool(Pool pool) {
            for (int i = 0; i < size; i++) {
                pool.oil[from[i]] -= oil[i];
                pool.oil[to[i]] += oil[i];
            }
            moveWater(pool);
        }

        /** Moves what was measured, oil by lots: what arrives waits until every cell has given. */
        void moveGround(Ground ground) {
            Arrays.fill(arrives, 0);
            for (int i = 0; i < size; i++) {
                ground.take(from[i], oil[i], taken);
                for (int l = 0; l < PLACES; l++) {
                    arrives[to[i] * PLACES + l] += taken[l];
                }
            }
            for (int c = 0; c < ground.pool.size; c++) {
                for (int l = 0; l < PLACES; l++) {
                    ground.oilByLot[c * PLACES + l] += arrives[c * PLACES + l];
                    ground.pool.oil[c] += arrives[c * PLACES + l];
                }
            }
            moveWater(ground.pool);
        }

        private void moveWater(Pool pool) {
            for (int i = 0; i < size; i++) {
                pool.water[from[i]] -= water[i];
                pool.water[to[i]] += water[i];
            }
        }
    }

    /** Who owns the lots, and the leases of them. */
    private static final class Deeds {
        final int[] ownerOf = new int[LOTS];
        int size;
        final int[] lot = new int[MAX_LEASES];
        final int[] person = new int[MAX_LEASES];
        final int[] until = new int[MAX_LEASES];
        final int[] stamp = new int[MAX_LEASES];

        void clear() {
            Arrays.fill(ownerOf, NONE);
            size = 0;
        }

        void copyFrom(Deeds other) {
            size = other.size;
            System.arraycopy(other.ownerOf, 0, ownerOf, 0, LOTS);
            System.arraycopy(other.lot, 0, lot, 0, MAX_LEASES);
            System.arraycopy(other.person, 0, person, 0, MAX_LEASES);
            System.arraycopy(other.until, 0, until, 0, MAX_LEASES);
            System.arraycopy(other.stamp, 0, stamp, 0, MAX_LEASES);
        }

        int add(int l, int p, int untilHour, int newStamp) {
            if (size >= MAX_LEASES) {
                return FULL;
            }
            lot[size] = l;
            person[size] = p;
            until[size] = untilHour;
            stamp[size] = newStamp;
            size++;
            return size - 1;
        }
    }

    /** The wells, and what each of them drew. */
    private static final class Wells {
        int size;
        final int[] person = new int[MAX_WELLS];
        final int[] cell = new int[MAX_WELLS];
        final int[] will = new int[MAX_WELLS];
        final boolean[] isOpen = new boolean[MAX_WELLS];
        final int[] oil = new int[MAX_WELLS];
        final int[] water = new int[MAX_WELLS];
        final int[] oilByLot = new int[MAX_WELLS * PLACES];
        final int[] oilByShift = new int[MAX_WELLS * SHIFTS];

        void clear() {
            size = 0;
            Arrays.fill(oil, 0);
            Arrays.fill(water, 0);
            Arrays.fill(oilByLot, 0);
            Arrays.fill(oilByShift, 0);
        }

        void copyFrom(Wells other) {
            size = other.size;
            System.arraycopy(other.person, 0, person, 0, MAX_WELLS);
            System.arraycopy(other.cell, 0, cell, 0, MAX_WELLS);
            System.arraycopy(other.will, 0, will, 0, MAX_WELLS);
            System.arraycopy(other.oil, 0, oil, 0, MAX_WELLS);
            System.arraycopy(other.water, 0, water, 0, MAX_WELLS);
            System.arraycopy(other.oilByLot, 0, oilByLot, 0, MAX_WELLS * PLACES);
            System.arraycopy(other.oilByShift, 0, oilByShift, 0, MAX_WELLS * SHIFTS);
            for (int k = 0; k < MAX_WELLS; k++) {
                isOpen[k] = other.isOpen[k];
            }
        }

        int add(int p, int c, int v) {
            if (size >= MAX_WELLS) {
                return FULL;
            }
            person[size] = p;
            cell[size] = c;
            will[size] = v;
            isOpen[size] = true;
            size++;
            return size - 1;
        }

        void noteDraw(int k, int shift, int[] taken, int waterToo) {
            for (int l = 0; l < PLACES; l++) {
                oil[k] += taken[l];
                oilByLot[k * PLACES + l] += taken[l];
                oilByShift[k * SHIFTS + shift] += taken[l];
            }
            water[k] += waterToo;
        }

        int sizeOf(int p) {
            int wells = 0;
            for (int k = 0; k < size; k++) {
                if (person[k] == p) {
                    wells++;
                }
            }
            return wells;
        }

        int oilOf(int p) {
            int sum = 0;
            for (int k = 0; k < size; k++) {
                if (person[k] == p) {
                    sum += oil[k];
                }
            }
            return sum;
        }

        int oilOfLot(int p, int l) {
            int sum = 0;
            for (int k = 0; k < size; k++) {
                if (person[k] == p) {
                    sum += oilByLot[k * PLACES + l];
                }
            }
            return sum;
        }
    }

    /** Tanks and sales. */
    private static final class Books {
        final int[] tank = new int[MAX_PERSONS];
        final int[] sold = new int[MAX_PERSONS];
        final int[] paid = new int[MAX_PERSONS];
        final int[] soldByShift = new int[SHIFTS];

        void clear() {
            Arrays.fill(tank, 0);
            Arrays.fill(sold, 0);
            Arrays.fill(paid, 0);
            Arrays.fill(soldByShift, 0);
        }

        void copyFrom(Books other) {
            System.arraycopy(other.tank, 0, tank, 0, MAX_PERSONS);
            System.arraycopy(other.sold, 0, sold, 0, MAX_PERSONS);
            System.arraycopy(other.paid, 0, paid, 0, MAX_PERSONS);
            System.arraycopy(other.soldByShift, 0, soldByShift, 0, SHIFTS);
        }

        int priceIn(int shift) {
            if (shift <= 0) {
                return FULL_PRICE;
            }
            return Math.max(LEAST_PRICE, FULL_PRICE - soldByShift[shift - 1] / PRICE_STEP);
        }

        int sellAt(int shift, int p, int n) {
            int pay = n * priceIn(shift);
            tank[p] -= n;
            sold[p] += n;
            paid[p] += pay;
            soldByShift[shift] += n;
            return pay;
        }

        int allInTanks() {
            return sumOverPersons(tank);
        }

        int allSold() {
            return sumOverPersons(sold);
        }

        private static int sumOverPersons(int[] of) {
            int sum = 0;
            for (int p = 0; p < MAX_PERSONS; p++) {
                sum += of[p];
            }
            return sum;
        }
    }

    /** All that is kept with a field. */
    private static final class Town {
        final Ground ground = new Ground();
        final Deeds deeds = new Deeds();
        final Wells wells = new Wells();
        final Books books = new Books();
        int hour;

        Town() {
            becomeNew(3, 3);
        }

        void becomeNew(int w, int h) {
            ground.becomeNew(w, h);
            deeds.clear();
            wells.clear();
            books.clear();
            hour = 0;
        }

        void copyFrom(Town other) {
            ground.copyFrom(other.ground);
            deeds.copyFrom(other.deeds);
            wells.copyFrom(other.wells);
            books.copyFrom(other.books);
            hour = other.hour;
        }

        int shift() {
            return hour / SHIFT_HOURS;
        }

        int letHourGo(Currents currents) {
            int came = 0;
            for (int k = 0; k < wells.size; k++) {
                if (wells.isOpen[k]) {
                    came += drawBy(k, currents.taken);
                }
            }
            currents.measure(ground.pool);
            currents.moveGround(ground);
            hour++;
            return came;
        }

        private int drawBy(int k, int[] taken) {
            int c = wells.cell[k];
            int barrels = ground.pool.barrelsUnder(c, wells.will[k]);
            int oil = ground.pool.oilAmong(c, barrels);
            ground.take(c, oil, taken);
            ground.pool.water[c] -= barrels - oil;
            wells.noteDraw(k, shift(), taken, barrels - oil);
            books.tank[wells.person[k]] += oil;
            return oil;
        }

        boolean hasEnded(int lease) {
            return hour >= deeds.until[lease] && !hasWellOn(deeds.person[lease], deeds.lot[lease]);
        }

        private boolean hasWellOn(int p, int l) {
            for (int k = 0; k < wells.size; k++) {
                if (wells.person[k] == p && ground.lotOf[wells.cell[k]] == l) {
                    return true;
                }
            }
            return false;
        }

        int holderOf(int l) {
            int best = NONE;
            for (int k = 0; k < deeds.size; k++) {
                if (deeds.lot[k] == l && !hasEnded(k) && (best == NONE || deeds.stamp[k] < deeds.stamp[best])) {
                    best = k;
                }
            }
            return best == NONE ? deeds.ownerOf[l] : deeds.person[best];
        }

        int wellsOn(int l) {
            int on = 0;
            for (int k = 0; k < wells.size; k++) {
                if (ground.lotOf[wells.cell[k]] == l) {
                    on++;
                }
            }
            return on;
        }

        int nearestWellFrom(int c) {
            int nearest = FAR;
            for (int k = 0; k < wells.size; k++) {
                nearest = Math.min(nearest, ground.pool.howFar(c, wells.cell[k]));
            }
            return nearest;
        }

        /** What a well may draw if its lot may draw so much for each of its cells. */
        int shareByAcres(int k, int acre) {
            int l = ground.lotOf[wells.cell[k]];
            int sharers = l == NONE ? 0 : wellsOn(l);
            return sharers <= 0 ? 0 : acre * ground.cellsOf(l) / sharers;
        }
    }

    /** The lines that are told, and what they let: they forbid no draw, they only make it hot. */
    private static final class Orders {
        int size;
        final int[] rule = new int[MAX_LINES];
        final int[] from = new int[MAX_LINES];
        final int[] number = new int[MAX_LINES];
        final boolean[] isVoid = new boolean[MAX_LINES];

        void copyFrom(Orders other) {
            size = other.size;
            System.arraycopy(other.rule, 0, rule, 0, MAX_LINES);
            System.arraycopy(other.from, 0, from, 0, MAX_LINES);
            System.arraycopy(other.number, 0, number, 0, MAX_LINES);
            for (int k = 0; k < MAX_LINES; k++) {
                isVoid[k] = other.isVoid[k];
            }
        }

        void add(int newRule, int shift, int n) {
            if (size >= MAX_LINES) {
                return;
            }
            rule[size] = newRule;
            from[size] = shift;
            number[size] = n;
            isVoid[size] = false;
            size++;
        }

        boolean tells(int asked, int shift) {
            for (int k = 0; k < size; k++) {
                if (rule[k] == asked && from[k] == shift) {
                    return true;
                }
            }
            return false;
        }

        boolean tellsExcept(int p, int shift) {
            for (int k = 0; k < size; k++) {
                if (rule[k] == EXCEPT && from[k] == shift && number[k] == p) {
                    return true;
                }
            }
            return false;
        }

        /** The line of a rule that holds in a shift, or NONE. */
        int lineIn(int asked, int shift) {
            int latest = NONE;
            for (int k = 0; k < size; k++) {
                if (rule[k] == asked && !isVoid[k] && from[k] <= shift
                        && (latest == NONE || from[k] > from[latest])) {
                    latest = k;
                }
            }
            return latest;
        }

        int numberIn(int asked, int shift) {
            int k = lineIn(asked, shift);
            return k == NONE ? 0 : number[k];
        }

        private boolean excepts(int p, int shift) {
            for (int k = 0; k < size; k++) {
                if (rule[k] == EXCEPT && !isVoid[k] && from[k] <= shift && number[k] == p) {
                    return true;
                }
            }
            return false;
        }

        int whyNot(Town town, int p, int c) {
            int shift = town.shift();
            return whyNotUnder(town, p, c, numberIn(NEAR, shift), numberIn(APART, shift));
        }

        int whyNotUnder(Town town, int p, int c, int near, int apart) {
            int l = town.ground.lotOf[c];
            if (l == NONE || town.holderOf(l) != p) {
                return NOT_HELD;
            }
            if (excepts(p, town.shift())) {
                return MAY;
            }
            if (town.ground.strangerFrom(c) < near) {
                return TOO_NEAR;
            }
            return town.nearestWellFrom(c) < apart ? NOT_APART : MAY;
        }

        int letOf(Town town, int k, int shift) {
            if (lineIn(SHUT, shift) != NONE) {
                return 0;
            }
            int each = lineIn(EACH, shift);
            int acre = lineIn(ACRE, shift);
            if (acre == NONE) {
                return each == NONE ? NONE : number[each];
            }
            int share = town.shareByAcres(k, number[acre]);
            return each == NONE ? share : Math.min(number[each], share);
        }

        int hotIn(Town town, int k, int shift) {
            int oil = town.wells.oilByShift[k * SHIFTS + shift];
            if (oil == 0) {
                return 0;
            }
            int let = letOf(town, k, shift);
            return let == NONE ? 0 : Math.max(0, oil - let);
        }

        int hotOfWell(Town town, int k) {
            int sum = 0;
            for (int shift = 0; shift < SHIFTS; shift++) {
                sum += hotIn(town, k, shift);
            }
            return sum;
        }

        int hotOfPerson(Town town, int p) {
            int sum = 0;
            for (int k = 0; k < town.wells.size; k++) {
                if (town.wells.person[k] == p) {
                    sum += hotOfWell(town, k);
                }
            }
            return sum;
        }

        int hotOfAll(Town town) {
            int sum = 0;
            for (int k = 0; k < town.wells.size; k++) {
                sum += hotOfWell(town, k);
            }
            return sum;
        }
    }

    /** The tape, and how it is read: a token's faults count only once the one before it was taken. */
    private static final class Tape {
        int size;
        private final int[] bytes = new int[MAX_BYTES];
        final Orders draft = new Orders();
        int fault;
        int place;
        private int at;
        private int token;
        private int start;
        private int value;

        int add(long v) {
            if (size + 8 > MAX_BYTES) {
                return FULL;
            }
            for (int i = 0; i < 8; i++) {
                bytes[size + i] = (int) (v >>> (56 - 8 * i)) & 255;
            }
            size += 8;
            return size;
        }

        /** Reads all lines into the draft, up to the first fault. */
        void read() {
            draft.size = 0;
            fault = 0;
            place = 0;
            at = 0;
            nextToken();
            for (int i = 0; i <= MAX_BYTES && fault == 0 && token != ENDING; i++) {
                int shift = readFrom();
                readRule(shift);
            }
        }

        private int readFrom() {
            if (token > FROM) {
                fail(MISPLACED);
            }
            if (draft.size >= MAX_LINES) {
                fail(TOO_MANY);
            }
            if (fault != 0 || token != FROM) {
                return 0;
            }
            nextToken();
            checkNumber(SHIFTS - 1);
            int shift = value;
            nextToken();
            return shift;
        }

        private void readRule(int shift) {
            if (token >= FROM) {
                fail(MISPLACED);
            }
            int rule = token;
            if (rule != EXCEPT && draft.tells(rule, shift)) {
                fail(TOLD_ALREADY);
            }
            nextToken();
            int number = 0;
            if (rule != SHUT) {
                checkNumber(mostOf(rule));
                number = value;
                if (rule == EXCEPT && draft.tellsExcept(number, shift)) {
                    fail(TOLD_ALREADY);
                }
                nextToken();
            }
            if (token != SEMICOLON) {
                fail(MISPLACED);
            }
            if (fault == 0) {
                draft.add(rule, shift, number);
                nextToken();
            }
        }

        private void checkNumber(int most) {
            if (token != NUMBER) {
                fail(MISPLACED);
            } else if (value > most) {
                fail(OUT_OF_RANGE);
            }
        }

        private static int mostOf(int rule) {
            switch (rule) {
                case NEAR:
                case APART: return FARTHEST_TOLD;
                case EXCEPT: return MAX_PERSONS - 1;
                default: return MAX_TOLD;
            }
        }

        /** The first fault stays: what is asked of tokens behind it no longer counts. */
        private void fail(int kind) {
            if (fault == 0) {
                fault = kind;
                place = start;
            }
        }

        private void nextToken() {
            if (fault != 0) {
                return;
            }
            while (at < size && bytes[at] == ' ') {
                at++;
            }
            start = at;
            value = 0;
            if (at >= size) {
                token = ENDING;
            } else if (isLetter(bytes[at])) {
                readName();
            } else if (isFigure(bytes[at])) {
                readFigures();
            } else if (bytes[at] == ';') {
                token = SEMICOLON;
                at++;
            } else {
                fail(NO_TOKEN);
            }
        }

        private void readName() {
            while (at < size && isLetter(bytes[at])) {
                at++;
            }
            for (int word = NEAR; word <= FROM; word++) {
                if (isSpelt(nameOf(word))) {
                    token = word;
                    return;
                }
            }
            fail(NO_TOKEN);
        }

        private void readFigures() {
            while (at < size && isFigure(bytes[at])) {
                if (at - start < 3) {
                    value = value * 10 + bytes[at] - '0';
                }
                at++;
            }
            token = NUMBER;
            if (at - start > 3) {
                fail(NO_TOKEN);
            }
        }

        private boolean isSpelt(String name) {
            if (at - start != name.length()) {
                return false;
            }
            for (int i = 0; i < name.length(); i++) {
                if (bytes[start + i] != name.charAt(i)) {
                    return false;
                }
            }
            return true;
        }

        private static String nameOf(int word) {
            switch (word) {
                case NEAR: return "near";
                case APART: return "apart";
                case EACH: return "each";
                case ACRE: return "acre";
                case SHUT: return "shut";
                case EXCEPT: return "except";
                default: return "from";
            }
        }

        private static boolean isLetter(int b) {
            return b >= 'a' && b <= 'z';
        }

        private static boolean isFigure(int b) {
            return b >= '0' && b <= '9';
        }
    }

    /** What the first persons gain by drilling, by sets of those who do. */
    private static final class Race {
        private final Pool pool = new Pool();
        private final Currents currents = new Currents();
        private final int[] came = new int[MAX_PERSONS];
        private final int[] gains = new int[SETS * RACERS];
        private int racers;
        private int will;
        private int cost;
        private int hours;

        void prepare(int n, int newWill, int newCost, int newHours) {
            racers = n;
            will = newWill;
            cost = newCost;
            hours = newHours;
        }

        void runAll(Town town, int[] spots) {
            for (int set = 0; set < 1 << racers; set++) {
                run(town, spots, set);
            }
        }

        void run(Town town, int[] spots, int set) {
            pool.copyFrom(town.ground.pool);
            Arrays.fill(came, 0);
            for (int i = 0; i < hours; i++) {
                drawAll(town.wells, spots, set);
                currents.measure(pool);
                currents.movePool(pool);
            }
            for (int p = 0; p < racers; p++) {
                gains[set * RACERS + p] = came[p] - (drills(set, p) ? cost : 0);
            }
        }

        private void drawAll(Wells wells, int[] spots, int set) {
            for (int k = 0; k < wells.size; k++) {
                if (wells.isOpen[k]) {
                    came[wells.person[k]] += drawFrom(wells.cell[k], wells.will[k]);
                }
            }
            for (int p = 0; p < racers; p++) {
                if (drills(set, p)) {
                    came[p] += drawFrom(spots[p], will);
                }
            }
        }

        private int drawFrom(int c, int most) {
            int barrels = pool.barrelsUnder(c, most);
            int oil = pool.oilAmong(c, barrels);
            pool.oil[c] -= oil;
            pool.water[c] -= barrels - oil;
            return oil;
        }

        private static boolean drills(int set, int p) {
            return (set >> p & 1) == 1;
        }

        int gainOf(int set, int p) {
            return gains[set * RACERS + p];
        }

        private int sumOf(int set) {
            int sum = 0;
            for (int p = 0; p < racers; p++) {
                sum += gainOf(set, p);
            }
            return sum;
        }

        private boolean isSteady(int set) {
            for (int p = 0; p < racers; p++) {
                if (gainOf(set ^ 1 << p, p) > gainOf(set, p)) {
                    return false;
                }
            }
            return true;
        }

        int steadySets() {
            int sets = 0;
            for (int set = 0; set < 1 << racers; set++) {
                if (isSteady(set)) {
                    sets++;
                }
            }
            return sets;
        }

        int leastSteady() {
            for (int set = 0; set < 1 << racers; set++) {
                if (isSteady(set)) {
                    return set;
                }
            }
            return NONE;
        }

        /** The set with the greatest sum of gains, of all sets or of steady ones alone. */
        int richest(boolean steadyAlone) {
            int best = NONE;
            for (int set = 0; set < 1 << racers; set++) {
                if ((!steadyAlone || isSteady(set)) && (best == NONE || sumOf(set) > sumOf(best))) {
                    best = set;
                }
            }
            return best;
        }

        /** 2: drilling always gains more; 1: never less and once more; else 0. */
        int urgeOf(int p) {
            boolean always = true;
            boolean once = false;
            for (int set = 0; set < 1 << racers; set++) {
                if (!drills(set, p)) {
                    int more = gainOf(set | 1 << p, p) - gainOf(set, p);
                    if (more < 0) {
                        return 0;
                    }
                    always = always && more > 0;
                    once = once || more > 0;
                }
            }
            return always ? 2 : once ? 1 : 0;
        }
    }

    /** A row of bytes, shorts or ints; its lane is NONE while it has nothing. */
    private static final class Sheet {
        int lane = NONE;
        int size;
        final int[] rows = new int[MAX_SHEET];

        void becomeNew(int newLane, int n) {
            lane = newLane;
            size = n;
            Arrays.fill(rows, 0);
        }

        void put(int i, int v) {
            rows[i] = lane == BYTES ? (byte) v : lane == SHORTS ? (short) v : v;
        }

        /** The sum of n cells from f on, or the answer that tells the first fault met among them. */
        int sumOf(int f, int n) {
            int sum = 0;
            for (int c = 0; c < n; c++) {
                if (f < 0 || f >= size - c) {
                    return FAULTS - INDEX_FAULT;
                }
                int v = rows[f + c];
                if (v < 0 || v > MAX_TOLD) {
                    return OUT_OF_BOUNDS - c;
                }
                sum += v;
            }
            return sum;
        }
    }
}
