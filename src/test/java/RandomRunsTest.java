import java.lang.reflect.Method;
import java.util.ArrayList;
import java.util.Arrays;
import java.util.Comparator;
import java.util.List;
import java.util.Random;

/** All promises: long runs of calls, made by a fixed seed, answered alike by OilTown and by PlainTown. */
public final class RandomRunsTest {
    private static final int[] EDGES = {
        Integer.MIN_VALUE, Integer.MAX_VALUE, -100, -5, -4, -3, -2, -1, 6, 7, 8, 9, 10, 12, 13, 18, 19, 24, 25, 36,
        49, 50, 60, 61, 72, 73, 160, 161, 199, 200, 999, 1000, 32768, 65536 + 7
    };
    private static final String[] RULES = {"near", "apart", "each", "acre", "shut", "except"};
    private static final int[] MOST = {9, 9, 200, 60, 0, 5};

    private final Due due;
    private final Random random;
    private final OilTown town = new OilTown();
    private final PlainTown plain = new PlainTown();
    private final int run;
    private int calls;

    private RandomRunsTest(Due due, int run) {
        this.due = due;
        this.run = run;
        this.random = new Random(1000 + run);
    }

    public static void main(String[] args) throws Exception {
        Due due = new Due("RandomRunsTest");
        int runs = args.length > 0 ? Integer.parseInt(args[0]) : 600;
        for (int run = 0; run < runs && due.wrongs() == 0; run++) {
            new RandomRunsTest(due, run).go();
        }
        due.end();
    }

    private static List<Method> face() {
        List<Method> face = new ArrayList<>();
        for (Method m : OilTown.class.getDeclaredMethods()) {
            if (java.lang.reflect.Modifier.isPublic(m.getModifiers())) {
                face.add(m);
            }
        }
        face.sort(Comparator.comparing(Method::getName));
        return face;
    }

    private void go() throws Exception {
        List<Method> face = face();
        boolean wild = run % 4 == 3;
        if (!wild) {
            settle();
        }
        while (calls < 500 && due.wrongs() == 0) {
            int dice = random.nextInt(100);
            if (!wild && dice < 25) {
                call("hour");
            } else if (dice < 30) {
                tellOrders();
            } else if (dice < 33) {
                fillSheet();
            } else if (!wild && dice < 36) {
                raceForOne();
            } else if (!wild && dice < 37) {
                call("keep");
            } else if (!wild && dice < 40) {
                call("stand", random.nextInt(3));
            } else if (!wild && dice < 42) {
                drillAndLease();
            } else {
                Method m = face.get(random.nextInt(face.size()));
                if (m.getName().equals("field") && random.nextInt(6) != 0) {
                    continue;
                }
                call(m, argsFor(m, wild ? 30 : 4));
            }
        }
        compareAll();
    }

    /** A field with lots, owners, oil and some wells, so that a run has something to ask for. */
    private void settle() throws Exception {
        int w = 1 + random.nextInt(6), h = 1 + random.nextInt(6);
        int persons = 1 + random.nextInt(6);
        for (int p = 0; p < persons; p++) {
            call("person");
        }
        call("field", w, h);
        int lots = 1 + random.nextInt(8);
        for (int c = 0; c < w * h; c++) {
            if (random.nextInt(8) != 0) {
                call("lay", c, random.nextInt(3) == 0 ? random.nextInt(lots) : c * lots / (w * h));
            }
            if (random.nextInt(5) != 0) {
                int scale = random.nextInt(4) == 0 ? 1000 : 200;
                call("cell", c, random.nextInt(10), random.nextInt(3) == 0 ? random.nextInt(1000) : 0,
                        random.nextInt(scale), random.nextInt(scale));
            }
        }
        for (int l = 0; l < lots; l++) {
            call("owner", l, random.nextInt(persons));
        }
        for (int i = 0; i < 8; i++) {
            call("drill", random.nextInt(persons), random.nextInt(w * h), random.nextInt(61));
        }
        for (int p = 0; p < persons; p++) {
            call("spot", p, random.nextInt(w * h));
        }
    }

    private void tellOrders() throws Exception {
        StringBuilder text = new StringBuilder();
        int n = random.nextInt(8) == 0 ? 11 + random.nextInt(3) : random.nextInt(7);
        for (int i = 0; i < n; i++) {
            text.append(blanks(random.nextInt(5)));
            if (n > 10 || random.nextInt(2) == 0) {
                int from = n > 10 ? i : random.nextInt(4) == 0 ? random.nextInt(50) : random.nextInt(8);
                text.append("from").append(blanks(random.nextInt(2))).append(from).append(blanks(random.nextInt(2)));
            }
            int rule = n > 10 ? 4 : random.nextInt(6);
            text.append(RULES[rule]);
            if (rule != 4) {
                text.append(blanks(random.nextInt(2)));
                text.append(random.nextInt(25) == 0 ? random.nextInt(1200) : random.nextInt(MOST[rule] + 1));
            }
            text.append(blanks(random.nextInt(5) - 3)).append(';');
        }
        if (random.nextInt(3) == 0 && text.length() > 0) {
            String noise = "; 0129azfromnearshutA\u00e9\u0000";
            text.setCharAt(random.nextInt(text.length()), noise.charAt(random.nextInt(noise.length())));
        }
        call("end", 0);
        int length = Math.min(160, text.length());
        for (int at = 0; at < length; at += 8) {
            long v = 0;
            for (int i = 0; i < 8; i++) {
                v = v << 8 | (at + i < length ? text.charAt(at + i) : ' ');
            }
            call("feed", v);
        }
        if (random.nextInt(3) != 0) {
            call("end", length - (random.nextInt(8) == 0 ? random.nextInt(length + 1) : 0));
        }
        call("orders");
        call("fault");
        call("count", 6);
    }

    /** Races for few cells at a cost that is about what there is to gain: where sets are steady by a little. */
    private void raceForOne() throws Exception {
        int n = 1 + random.nextInt(4), will = random.nextInt(61), hours = 1 + random.nextInt(8);
        int cells = town.count(0), first = random.nextInt(cells);
        for (int p = 0; p < n; p++) {
            call("spot", p, random.nextInt(3) == 0 ? random.nextInt(cells) : first);
        }
        int alone = Math.max(0, town.gain(n, will, 0, hours, 1, 0) - town.gain(n, will, 0, hours, 0, 0));
        int cost = Math.min(999, random.nextBoolean() ? alone : random.nextInt(alone + 1));
        for (int what = 0; what < 4; what++) {
            call("steady", n, will, cost, hours, what);
        }
        for (int p = 0; p < n; p++) {
            call("must", n, will, cost, hours, p);
            call("gain", n, will, cost, hours, random.nextInt(1 << n), p);
        }
    }

    /** Few lots and few stamps, so that leases meet; wells of those who hold. */
    private void drillAndLease() throws Exception {
        for (int i = 0; i < 3; i++) {
            call("lease", random.nextInt(3), random.nextInt(6), 1 + random.nextInt(30), random.nextInt(4));
            int c = random.nextInt(town.count(0));
            int lot = town.cellOf(c, 4);
            call("drill", lot < 0 ? 0 : town.holds(lot), c, random.nextInt(61));
            call("sell", random.nextInt(6), 1 + random.nextInt(60));
        }
    }

    private static String blanks(int n) {
        return " ".repeat(Math.max(0, n));
    }

    private void fillSheet() throws Exception {
        int k = random.nextInt(4), lane = random.nextInt(3), n = random.nextInt(40);
        call("sheet", k, lane, n);
        for (int i = 0; i < Math.min(n, 12); i++) {
            call("write", k, random.nextInt(n), random.nextInt(6) == 0 ? random.nextInt() : random.nextInt(1000));
        }
        call("scan", k, random.nextInt(5) == 0 ? random.nextInt(3) : lane, random.nextInt(4) == 0 ? random.nextInt(9) : 0);
    }

    private Object[] argsFor(Method m, int wildness) {
        Class<?>[] types = m.getParameterTypes();
        Object[] args = new Object[types.length];
        for (int i = 0; i < types.length; i++) {
            if (types[i] == boolean.class) {
                args[i] = random.nextBoolean();
            } else if (types[i] == long.class) {
                args[i] = random.nextLong();
            } else if (random.nextInt(100) < wildness) {
                args[i] = random.nextInt(3) == 0 ? random.nextInt() : EDGES[random.nextInt(EDGES.length)];
            } else {
                args[i] = random.nextInt(mostOf(m.getName(), i) + 1);
            }
        }
        return args;
    }

    /** About what each number may be, so that most calls of a run are not refused. */
    private static int mostOf(String name, int i) {
        switch (name + i) {
            case "field0": case "field1": return 7;
            case "cell0": case "lay0": case "cellOf0": case "drill1": case "why1": case "lets1": case "spot1": return 30;
            case "cell1": return 9;
            case "cell2": case "cell3": case "cell4": case "lease3": return 999;
            case "lease2": case "drill2": case "will1": return 60;
            case "cellOf1": case "told1": case "wellOf1": return 18;
            case "drew1": case "price0": return 20;
            case "sell1": return 80;
            case "end0": return 160;
            case "line0": case "voids0": return 11;
            case "gain0": case "steady0": case "must0": return 4;
            case "gain1": case "steady1": case "must1": return 60;
            case "gain2": case "steady2": case "must2": return 120;
            case "gain3": case "steady3": case "must3": return 24;
            case "gain4": return 15;
            case "sheet2": case "write1": return 72;
            case "write2": return 999;
            case "count0": return 13;
            default: return 7;
        }
    }

    private void compareAll() throws Exception {
        for (int c = 0; c < 36; c++) {
            for (int what = 0; what < 20; what++) {
                call("cellOf", c, what);
            }
        }
        for (int k = 0; k < 12; k++) {
            for (int what = 0; what < 20; what++) {
                call("told", k, what);
                call("wellOf", k, what);
                call("leaseOf", k, what);
                call("line", k, what);
                call("count", what);
            }
            for (int shift = 0; shift < 50; shift++) {
                for (int what = 0; what < 3; what++) {
                    call("drew", k, shift, what);
                }
            }
        }
    }

    private void call(String name, Object... args) throws Exception {
        for (Method m : face()) {
            if (m.getName().equals(name)) {
                call(m, args);
            }
        }
    }

    private void call(Method m, Object[] args) throws Exception {
        calls++;
        Method other = PlainTown.class.getDeclaredMethod(m.getName(), m.getParameterTypes());
        int want = (Integer) other.invoke(plain, args);
        int got = (Integer) m.invoke(town, args);
        due.is("run " + run + ", call " + calls + ": " + m.getName() + Arrays.toString(args), got, want);
    }
}
