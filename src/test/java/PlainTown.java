import java.util.ArrayList;
import java.util.HashSet;
import java.util.List;
import java.util.Set;
import java.util.TreeMap;
import java.util.function.IntPredicate;

/**
 * The document told a second time, as plainly as the Java library allows and by other means than OilTown:
 * RandomRunsTest asks both the same. A race here is a whole town copied, drilled and let run, lots and all.
 */
final class PlainTown {
    private static final int BAD = -1, STATE = -2, FULL = -3, NONE = -4;

    private static final class Cell {
        int sand = 5, gas, water, lot = NONE;
        TreeMap<Integer, Integer> oil = new TreeMap<>();

        int oil() {
            return oil.values().stream().mapToInt(Integer::intValue).sum();
        }

        int push() {
            return oil() + water + gas;
        }

        void tell(int n) {
            oil.clear();
            oil.put(lot == NONE ? 8 : lot, n);
        }

        TreeMap<Integer, Integer> take(int n) {
            TreeMap<Integer, Integer> out = new TreeMap<>();
            long sum = oil();
            if (sum == 0) {
                return out;
            }
            oil.forEach((l, has) -> out.put(l, (int) ((long) n * has / sum)));
            int lacks = n - out.values().stream().mapToInt(Integer::intValue).sum();
            for (int l : oil.keySet()) {
                if (lacks > 0 && oil.get(l) > out.get(l)) {
                    out.merge(l, 1, Integer::sum);
                    lacks--;
                }
            }
            out.forEach((l, n2) -> oil.merge(l, -n2, Integer::sum));
            return out;
        }

        Cell copy() {
            Cell c = new Cell();
            c.sand = sand;
            c.gas = gas;
            c.water = water;
            c.lot = lot;
            c.oil = new TreeMap<>(oil);
            return c;
        }
    }

    private record Lease(int lot, int person, int until, int stamp) { }

    private static final class Well {
        int person, cell, will, water;
        boolean open = true;
        TreeMap<Integer, Integer> byLot = new TreeMap<>();
        TreeMap<Integer, Integer> byShift = new TreeMap<>();

        int oil() {
            return byShift.values().stream().mapToInt(Integer::intValue).sum();
        }

        Well copy() {
            Well w = new Well();
            w.person = person;
            w.cell = cell;
            w.will = will;
            w.water = water;
            w.open = open;
            w.byLot = new TreeMap<>(byLot);
            w.byShift = new TreeMap<>(byShift);
            return w;
        }
    }

    private record Sale(int shift, int person, int n, int paid) { }

    private record Line(int rule, int from, int number) { }

    private static final class Field {
        int w = 3, h = 3, hour;
        List<Cell> cells = new ArrayList<>();
        List<Lease> leases = new ArrayList<>();
        List<Well> wells = new ArrayList<>();
        List<Sale> sales = new ArrayList<>();
        int[] owner = {NONE, NONE, NONE, NONE, NONE, NONE, NONE, NONE};
        int[] tank = new int[6];

        Field(int w, int h) {
            this.w = w;
            this.h = h;
            for (int c = 0; c < w * h; c++) {
                cells.add(new Cell());
            }
        }

        Field copy() {
            Field f = new Field(w, h);
            f.hour = hour;
            f.cells.clear();
            cells.forEach(c -> f.cells.add(c.copy()));
            f.leases.addAll(leases);
            wells.forEach(x -> f.wells.add(x.copy()));
            f.sales.addAll(sales);
            f.owner = owner.clone();
            f.tank = tank.clone();
            return f;
        }

        int go() {
            int came = 0;
            for (Well well : wells) {
                Cell c = cells.get(well.cell);
                int all = c.oil() + c.water;
                if (!well.open || all == 0) {
                    continue;
                }
                int d = Math.min(well.will, all);
                int oil = (int) ((long) d * c.oil() / all);
                c.take(oil).forEach((l, n) -> well.byLot.merge(l, n, Integer::sum));
                c.water -= d - oil;
                well.water += d - oil;
                well.byShift.merge(hour / 4, oil, Integer::sum);
                tank[well.person] += oil;
                came += oil;
            }
            List<Cell> before = new ArrayList<>();
            cells.forEach(c -> before.add(c.copy()));
            for (int y = 0; y < h; y++) {
                for (int x = 0; x < w; x++) {
                    flow(before, x, y);
                }
            }
            hour++;
            return came;
        }

        private void flow(List<Cell> before, int x, int y) {
            int[][] steps = {{-1, 0}, {1, 0}, {0, -1}, {0, 1}};
            Cell was = before.get(y * w + x);
            Cell left = was.copy();
            long all = was.oil() + was.water;
            long[] want = new long[4];
            long sum = 0;
            for (int i = 0; i < 4; i++) {
                int nx = x + steps[i][0], ny = y + steps[i][1];
                if (nx < 0 || ny < 0 || nx >= w || ny >= h) {
                    continue;
                }
                Cell other = before.get(ny * w + nx);
                if (other.push() < was.push()) {
                    want[i] = (long) (was.push() - other.push()) * Math.min(was.sand, other.sand) / 40;
                    sum += want[i];
                }
            }
            if (all == 0) {
                return;
            }
            Cell here = cells.get(y * w + x);
            for (int i = 0; i < 4; i++) {
                long n = sum > all ? want[i] * all / sum : want[i];
                if (n == 0) {
                    continue;
                }
                Cell to = cells.get((y + steps[i][1]) * w + x + steps[i][0]);
                int oil = (int) (n * was.oil() / all);
                int water = (int) (n * was.water / all);
                left.take(oil).forEach((l, m) -> {
                    here.oil.merge(l, -m, Integer::sum);
                    to.oil.merge(l, m, Integer::sum);
                });
                here.water -= water;
                to.water += water;
            }
        }

        boolean ended(Lease lease) {
            return hour >= lease.until
                    && wells.stream().noneMatch(x -> x.person == lease.person && cells.get(x.cell).lot == lease.lot);
        }

        int holder(int l) {
            Lease best = null;
            for (Lease lease : leases) {
                if (lease.lot == l && !ended(lease) && (best == null || lease.stamp < best.stamp)) {
                    best = lease;
                }
            }
            return best == null ? owner[l] : best.person;
        }

        int far(int a, int b) {
            return Math.abs(a % w - b % w) + Math.abs(a / w - b / w);
        }
    }

    private Field now = new Field(3, 3);
    private final List<Field> kept = new ArrayList<>();
    private int persons;
    private final int[] spots = {NONE, NONE, NONE, NONE, NONE, NONE};
    private final List<Integer> tape = new ArrayList<>();
    private List<Line> lines = new ArrayList<>();
    private Set<Integer> voided = new HashSet<>();
    private int fault;
    private final Object[] sheets = new Object[4];

    private boolean noCell(int c) {
        return c < 0 || c >= now.cells.size();
    }

    private boolean noPerson(int p) {
        return p < 0 || p >= persons;
    }

    private boolean noWell(int k) {
        return k < 0 || k >= now.wells.size();
    }

    private static boolean out(int v, int least, int most) {
        return v < least || v > most;
    }

    public int field(int w, int h) {
        if (out(w, 1, 6) || out(h, 1, 6)) {
            return BAD;
        }
        now = new Field(w, h);
        return 1;
    }

    public int cell(int c, int sand, int gas, int water, int oil) {
        if (noCell(c) || out(sand, 0, 9) || out(gas, 0, 999) || out(water, 0, 999) || out(oil, 0, 999)) {
            return BAD;
        }
        Cell cell = now.cells.get(c);
        cell.sand = sand;
        cell.gas = gas;
        cell.water = water;
        cell.tell(oil);
        return 1;
    }

    public int lay(int c, int l) {
        if (noCell(c) || l != NONE && out(l, 0, 7)) {
            return BAD;
        }
        int was = now.cells.get(c).lot;
        now.cells.get(c).lot = l;
        return was;
    }

    public int cellOf(int c, int what) {
        if (noCell(c) || out(what, 0, 5) && out(what, 10, 18)) {
            return BAD;
        }
        Cell x = now.cells.get(c);
        if (what >= 10) {
            return x.oil.getOrDefault(what - 10, 0);
        }
        return new int[] {x.sand, x.gas, x.water, x.oil(), x.lot, x.push()}[what];
    }

    public int hour() {
        return now.hour == 199 ? FULL : now.go();
    }

    public int person() {
        return persons == 6 ? FULL : persons++;
    }

    public int owner(int l, int p) {
        if (out(l, 0, 7) || p != NONE && noPerson(p)) {
            return -5;
        }
        int was = now.owner[l];
        now.owner[l] = p;
        return was;
    }

    public int lease(int l, int p, int until, int stamp) {
        if (out(l, 0, 7) || noPerson(p) || out(until, 1, 199) || out(stamp, 0, 999)) {
            return BAD;
        }
        if (now.leases.size() == 12) {
            return FULL;
        }
        now.leases.add(new Lease(l, p, until, stamp));
        return now.leases.size() - 1;
    }

    public int leaseOf(int k, int what) {
        if (out(k, 0, now.leases.size() - 1) || out(what, 0, 4)) {
            return BAD;
        }
        Lease x = now.leases.get(k);
        return new int[] {x.lot, x.person, x.until, x.stamp, now.ended(x) ? 1 : 0}[what];
    }

    public int holds(int l) {
        return out(l, 0, 7) ? BAD : now.holder(l);
    }

    public int told(int p, int what) {
        if (noPerson(p) || out(what, 0, 6) && out(what, 10, 18)) {
            return BAD;
        }
        int sold = 0, paid = 0, wells = 0, oil = 0, hot = 0, ofLot = 0;
        for (Sale s : now.sales) {
            if (s.person == p) {
                sold += s.n;
                paid += s.paid;
            }
        }
        for (Well w : now.wells) {
            if (w.person == p) {
                wells++;
                oil += w.oil();
                hot += hot(w);
                ofLot += w.byLot.getOrDefault(what - 10, 0);
            }
        }
        if (what >= 10) {
            return ofLot;
        }
        return new int[] {now.tank[p], sold, paid, wells, oil, hot, Math.max(0, sold - (oil - hot))}[what];
    }

    private int whyNot(int p, int c, int near, int apart) {
        int lot = now.cells.get(c).lot;
        if (lot == NONE || now.holder(lot) != p) {
            return 1;
        }
        for (int k = 0; k < lines.size(); k++) {
            Line x = lines.get(k);
            if (x.rule == 5 && x.number == p && x.from <= now.hour / 4 && !voided.contains(k)) {
                return 0;
            }
        }
        for (int other = 0; other < now.cells.size(); other++) {
            if (now.cells.get(other).lot != lot && now.far(c, other) < near) {
                return 2;
            }
        }
        return now.wells.stream().anyMatch(w -> now.far(c, w.cell) < apart) ? 3 : 0;
    }

    private Line line(int rule, int shift, boolean any) {
        Line best = null;
        for (int k = 0; k < lines.size(); k++) {
            Line x = lines.get(k);
            if (x.rule == rule && x.from <= shift && !voided.contains(k) && (best == null || x.from > best.from)) {
                best = x;
            }
        }
        return best == null && any ? new Line(rule, 0, 0) : best;
    }

    public int drill(int p, int c, int will) {
        if (noPerson(p) || noCell(c) || out(will, 0, 60)) {
            return BAD;
        }
        if (why(p, c) != 0) {
            return STATE;
        }
        if (now.wells.size() == 10) {
            return FULL;
        }
        now.wells.add(well(p, c, will));
        return now.wells.size() - 1;
    }

    private static Well well(int p, int c, int will) {
        Well w = new Well();
        w.person = p;
        w.cell = c;
        w.will = will;
        return w;
    }

    public int why(int p, int c) {
        int shift = now.hour / 4;
        return noPerson(p) || noCell(c) ? BAD
                : whyNot(p, c, line(0, shift, true).number, line(1, shift, true).number);
    }

    public int will(int k, int v) {
        if (noWell(k) || out(v, 0, 60)) {
            return BAD;
        }
        int was = now.wells.get(k).will;
        now.wells.get(k).will = v;
        return was;
    }

    public int open(int k, boolean is) {
        if (noWell(k)) {
            return BAD;
        }
        int was = now.wells.get(k).open ? 1 : 0;
        now.wells.get(k).open = is;
        return was;
    }

    public int wellOf(int k, int what) {
        if (noWell(k) || out(what, 0, 6) && out(what, 10, 18)) {
            return BAD;
        }
        Well w = now.wells.get(k);
        if (what >= 10) {
            return w.byLot.getOrDefault(what - 10, 0);
        }
        return new int[] {w.person, w.cell, w.will, w.open ? 1 : 0, w.oil(), w.water, hot(w)}[what];
    }

    private int let(Well w, int shift) {
        if (line(4, shift, false) != null) {
            return 0;
        }
        List<Integer> lets = new ArrayList<>();
        if (line(2, shift, false) != null) {
            lets.add(line(2, shift, false).number);
        }
        if (line(3, shift, false) != null) {
            int lot = now.cells.get(w.cell).lot;
            long cells = now.cells.stream().filter(c -> c.lot == lot).count();
            long wells = now.wells.stream().filter(x -> now.cells.get(x.cell).lot == lot).count();
            lets.add(lot == NONE ? 0 : (int) (line(3, shift, false).number * cells / wells));
        }
        return lets.stream().mapToInt(Integer::intValue).min().orElse(NONE);
    }

    private int hot(Well w, int shift) {
        int let = let(w, shift);
        return let == NONE ? 0 : Math.max(0, w.byShift.getOrDefault(shift, 0) - let);
    }

    private int hot(Well w) {
        return w.byShift.keySet().stream().mapToInt(s -> hot(w, s)).sum();
    }

    private int hot() {
        return now.wells.stream().mapToInt(this::hot).sum();
    }

    public int drew(int k, int shift, int what) {
        if (noWell(k) || out(shift, 0, 49) || out(what, 0, 2)) {
            return BAD;
        }
        Well w = now.wells.get(k);
        return what == 0 ? w.byShift.getOrDefault(shift, 0) : what == 1 ? let(w, shift) : hot(w, shift);
    }

    public int sell(int p, int n) {
        if (noPerson(p) || out(n, 1, 999)) {
            return BAD;
        }
        if (now.tank[p] < n) {
            return STATE;
        }
        int pay = n * price(now.hour / 4);
        now.tank[p] -= n;
        now.sales.add(new Sale(now.hour / 4, p, n, pay));
        return pay;
    }

    public int price(int shift) {
        if (out(shift, 0, now.hour / 4)) {
            return BAD;
        }
        int sold = now.sales.stream().filter(s -> s.shift == shift - 1).mapToInt(Sale::n).sum();
        return Math.max(4, 100 - sold / 5);
    }

    public int feed(long v) {
        if (tape.size() > 152) {
            return FULL;
        }
        for (int i = 7; i >= 0; i--) {
            tape.add((int) (v >> 8 * i & 255));
        }
        return tape.size();
    }

    public int end(int n) {
        if (out(n, 0, tape.size())) {
            return BAD;
        }
        int had = tape.size();
        while (tape.size() > n) {
            tape.remove(tape.size() - 1);
        }
        return had;
    }

    /** A fault of a text, thrown to the top as the plainest way out of a grammar. */
    private static final class Fault extends Exception {
        private static final long serialVersionUID = 1L;
        final int kind, place;

        Fault(int kind, int place) {
            this.kind = kind;
            this.place = place;
        }
    }

    /** A text and the token that stands next in it: "" at the end. */
    private static final class Text {
        static final List<String> NAMES = List.of("near", "apart", "each", "acre", "shut", "except", "from");
        final String text;
        int start, after;
        String token;

        Text(String text) throws Fault {
            this.text = text;
            take();
        }

        String take() throws Fault {
            String taken = token;
            start = after;
            while (start < text.length() && text.charAt(start) == ' ') {
                start++;
            }
            after = start;
            if (start < text.length()) {
                char c = text.charAt(start);
                after = c == ';' ? start + 1 : runOf(c >= 'a' && c <= 'z' ? b -> b >= 'a' && b <= 'z'
                        : b -> b >= '0' && b <= '9');
            }
            token = text.substring(start, after);
            boolean empty = token.isEmpty() && start < text.length();
            boolean unknown = isName() && !NAMES.contains(token);
            if (empty || unknown || isNumber() && token.length() > 3) {
                throw new Fault(1, start);
            }
            return taken;
        }

        private int runOf(IntPredicate belongs) {
            int i = start;
            while (i < text.length() && belongs.test(text.charAt(i))) {
                i++;
            }
            return i;
        }

        boolean isName() {
            return token.matches("[a-z]+");
        }

        boolean isNumber() {
            return token.matches("[0-9]+");
        }

        int number(int most) throws Fault {
            if (!isNumber()) {
                throw new Fault(2, start);
            }
            if (Integer.parseInt(token) > most) {
                throw new Fault(3, start);
            }
            return Integer.parseInt(token);
        }
    }

    private static List<Line> read(String text) throws Fault {
        List<Line> found = new ArrayList<>();
        Text t = new Text(text);
        while (!t.token.isEmpty()) {
            if (!t.isName()) {
                throw new Fault(2, t.start);
            }
            if (found.size() == 12) {
                throw new Fault(4, t.start);
            }
            int from = 0;
            if (t.token.equals("from")) {
                t.take();
                from = t.number(49);
                t.take();
            }
            if (!t.isName() || t.token.equals("from")) {
                throw new Fault(2, t.start);
            }
            int rule = Text.NAMES.indexOf(t.token);
            for (Line x : found) {
                if (rule != 5 && x.rule == rule && x.from == from) {
                    throw new Fault(5, t.start);
                }
            }
            t.take();
            int number = 0;
            if (rule != 4) {
                number = t.number(rule < 2 ? 9 : rule < 4 ? 999 : 5);
                if (rule == 5 && found.contains(new Line(5, from, number))) {
                    throw new Fault(5, t.start);
                }
                t.take();
            }
            if (!t.token.equals(";")) {
                throw new Fault(2, t.start);
            }
            found.add(new Line(rule, from, number));
            t.take();
        }
        return found;
    }

    public int orders() {
        StringBuilder text = new StringBuilder();
        tape.forEach(b -> text.append((char) b.intValue()));
        tape.clear();
        fault = 0;
        try {
            lines = read(text.toString());
            voided = new HashSet<>();
            return lines.size();
        } catch (Fault f) {
            fault = f.kind;
            return -10 - f.place;
        }
    }

    public int fault() {
        return fault;
    }

    public int line(int k, int what) {
        if (out(k, 0, lines.size() - 1) || out(what, 0, 3)) {
            return BAD;
        }
        Line x = lines.get(k);
        return new int[] {x.rule, x.from, x.number, voided.contains(k) ? 1 : 0}[what];
    }

    public int voids(int k) {
        if (out(k, 0, lines.size() - 1)) {
            return -100000;
        }
        int before = hot();
        return voided.add(k) ? before - hot() : -100002;
    }

    public int lets(int p, int c, int rule) {
        if (noPerson(p) || noCell(c) || out(rule, 0, 1)) {
            return BAD;
        }
        int best = NONE;
        for (int v = 0; v <= 9; v++) {
            int near = rule == 0 ? v : line(0, now.hour / 4, true).number;
            int apart = rule == 1 ? v : line(1, now.hour / 4, true).number;
            best = whyNot(p, c, near, apart) == 0 ? v : best;
        }
        return best;
    }

    public int spot(int p, int c) {
        if (noPerson(p) || noCell(c)) {
            return -5;
        }
        int was = spots[p];
        spots[p] = c;
        return was;
    }

    private int raceState(int n, int will, int cost, int hours) {
        if (out(n, 1, Math.min(4, persons)) || out(will, 0, 60) || out(cost, 0, 999) || out(hours, 1, 24)) {
            return BAD;
        }
        for (int p = 0; p < n; p++) {
            if (noCell(spots[p])) {
                return STATE;
            }
        }
        return 0;
    }

    private int[] gains(int n, int will, int cost, int hours, int set) {
        Field f = now.copy();
        f.tank = new int[6];
        for (int p = 0; p < n; p++) {
            if ((set & 1 << p) != 0) {
                f.wells.add(well(p, spots[p], will));
            }
        }
        for (int i = 0; i < hours; i++) {
            f.go();
        }
        int[] gains = new int[n];
        for (int p = 0; p < n; p++) {
            gains[p] = f.tank[p] - ((set & 1 << p) != 0 ? cost : 0);
        }
        return gains;
    }

    private int[][] allGains(int n, int will, int cost, int hours) {
        int[][] all = new int[1 << n][];
        for (int set = 0; set < all.length; set++) {
            all[set] = gains(n, will, cost, hours, set);
        }
        return all;
    }

    public int gain(int n, int will, int cost, int hours, int set, int p) {
        int state = raceState(n, will, cost, hours);
        if (state == BAD || out(set, 0, (1 << n) - 1) || out(p, 0, n - 1)) {
            return -100000;
        }
        return state == STATE ? -100002 : gains(n, will, cost, hours, set)[p];
    }

    public int steady(int n, int will, int cost, int hours, int what) {
        int state = raceState(n, will, cost, hours);
        if (state == BAD || out(what, 0, 3)) {
            return BAD;
        }
        if (state == STATE) {
            return STATE;
        }
        int[][] all = allGains(n, will, cost, hours);
        List<Integer> steady = new ArrayList<>();
        int best = NONE, bestSteady = NONE;
        for (int set = 0; set < all.length; set++) {
            boolean is = true;
            for (int p = 0; p < n; p++) {
                is &= all[set ^ 1 << p][p] <= all[set][p];
            }
            if (is) {
                steady.add(set);
                bestSteady = bestSteady == NONE || sum(all[set]) > sum(all[bestSteady]) ? set : bestSteady;
            }
            best = best == NONE || sum(all[set]) > sum(all[best]) ? set : best;
        }
        return what == 0 ? steady.size() : what == 1 ? steady.isEmpty() ? NONE : steady.get(0)
                : what == 2 ? bestSteady : best;
    }

    private static int sum(int[] of) {
        int sum = 0;
        for (int v : of) {
            sum += v;
        }
        return sum;
    }

    public int must(int n, int will, int cost, int hours, int p) {
        int state = raceState(n, will, cost, hours);
        if (state == BAD || out(p, 0, n - 1)) {
            return BAD;
        }
        if (state == STATE) {
            return STATE;
        }
        int[][] all = allGains(n, will, cost, hours);
        int more = 0, same = 0, less = 0;
        for (int set = 0; set < all.length; set++) {
            if ((set & 1 << p) != 0) {
                int by = Integer.compare(all[set][p], all[set ^ 1 << p][p]);
                more += by > 0 ? 1 : 0;
                same += by == 0 ? 1 : 0;
                less += by < 0 ? 1 : 0;
            }
        }
        return less > 0 || more == 0 ? 0 : same > 0 ? 1 : 2;
    }

    public int keep() {
        if (kept.size() == 3) {
            return FULL;
        }
        kept.add(now.copy());
        return kept.size() - 1;
    }

    public int stand(int k) {
        if (out(k, 0, kept.size() - 1)) {
            return BAD;
        }
        now = kept.get(k).copy();
        return 1;
    }

    public int sheet(int k, int lane, int n) {
        if (out(k, 0, 3) || out(lane, 0, 2) || n > 72) {
            return BAD;
        }
        if (n < 0) {
            return -14;
        }
        sheets[k] = lane == 0 ? new byte[n] : lane == 1 ? new short[n] : new int[n];
        return 1;
    }

    /** Here the machine's own faults are what is asked for: the plainest telling is to let it find them. */
    public int write(int k, int i, int v) {
        if (out(k, 0, 3)) {
            return BAD;
        }
        if (sheets[k] == null) {
            return -11;
        }
        try {
            if (sheets[k] instanceof byte[] b) {
                b[i] = (byte) v;
            } else if (sheets[k] instanceof short[] s) {
                s[i] = (short) v;
            } else {
                ((int[]) sheets[k])[i] = v;
            }
            return 1;
        } catch (IndexOutOfBoundsException e) {
            return -12;
        }
    }

    public int scan(int k, int lane, int f) {
        if (out(k, 0, 3) || out(lane, 0, 2)) {
            return BAD;
        }
        if (sheets[k] == null) {
            return -11;
        }
        int[] found = new int[now.cells.size()];
        try {
            for (int c = 0; c < found.length; c++) {
                found[c] = lane == 0 ? ((byte[]) sheets[k])[f + c]
                        : lane == 1 ? ((short[]) sheets[k])[f + c] : ((int[]) sheets[k])[f + c];
                if (out(found[c], 0, 999)) {
                    return -100 - c;
                }
            }
        } catch (ClassCastException e) {
            return -13;
        } catch (IndexOutOfBoundsException e) {
            return -12;
        }
        for (int c = 0; c < found.length; c++) {
            now.cells.get(c).tell(found[c]);
        }
        return sum(found);
    }

    public int count(int what) {
        switch (what) {
            case 0: return now.cells.size();
            case 1: return now.cells.stream().mapToInt(Cell::oil).sum();
            case 2: return now.cells.stream().mapToInt(c -> c.water).sum();
            case 3: return persons;
            case 4: return now.leases.size();
            case 5: return now.wells.size();
            case 6: return lines.size();
            case 7: return now.hour;
            case 8: return sum(now.tank);
            case 9: return now.sales.stream().mapToInt(Sale::n).sum();
            case 10: return hot();
            case 11: return kept.size();
            case 12: return tape.size();
            case 13: return sheets[0] == null ? NONE : java.lang.reflect.Array.getLength(sheets[0]);
            default: return BAD;
        }
    }
}
