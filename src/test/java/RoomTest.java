import com.sun.management.ThreadMXBean;
import java.lang.management.ManagementFactory;
import java.lang.reflect.Array;
import java.lang.reflect.Field;
import java.lang.reflect.Modifier;
import java.util.ArrayDeque;
import java.util.Deque;
import java.util.IdentityHashMap;
import java.util.Map;

/** The room that a run's calls live in: what an object of OilTown holds, and that only keep() makes more of it. */
public final class RoomTest {
    private static final Due due = new Due("RoomTest");
    private static final int MOST_OBJECTS = 600_000, MOST_ELEMENTS = 7_300_000, CALLS = 512;

    /** Measuring itself may take some bytes; a row made in each call would take far more. */
    private static final long SLACK = 512;

    public static void main(String[] args) throws Exception {
        roomOfRun();
        callsMakeNothing();
        due.end();
    }

    private static final class Room {
        long objects;
        long elements;
    }

    /** A run could make a new object by each of its calls, so even that has to fit. */
    private static void roomOfRun() throws Exception {
        OilTown town = Towns.brim();
        due.is("fields that are kept", town.count(11), 3);
        Room room = roomOf(town);
        due.holds("objects: " + room.objects, room.objects > 50 && room.objects * CALLS < MOST_OBJECTS);
        due.holds("elements: " + room.elements, room.elements > 1000 && room.elements * CALLS < MOST_ELEMENTS);
    }

    private static Room roomOf(Object root) throws Exception {
        Room room = new Room();
        Map<Object, Object> seen = new IdentityHashMap<>();
        Deque<Object> open = new ArrayDeque<>();
        open.add(root);
        while (!open.isEmpty()) {
            Object at = open.remove();
            if (seen.put(at, at) != null) {
                continue;
            }
            room.objects++;
            if (at.getClass().isArray()) {
                room.elements += Array.getLength(at);
                openElements(at, open);
            } else {
                room.elements += openFields(at, open);
            }
        }
        return room;
    }

    private static void openElements(Object row, Deque<Object> open) {
        if (row instanceof Object[] objects) {
            for (Object o : objects) {
                if (o != null) {
                    open.add(o);
                }
            }
        }
    }

    private static int openFields(Object at, Deque<Object> open) throws Exception {
        int fields = 0;
        for (Field f : at.getClass().getDeclaredFields()) {
            if (Modifier.isStatic(f.getModifiers())) {
                continue;
            }
            fields++;
            f.setAccessible(true);
            Object value = f.get(at);
            if (!f.getType().isPrimitive() && value != null) {
                open.add(value);
            }
        }
        return fields;
    }

    private interface Call {
        int on(OilTown x);
    }

    private static void callsMakeNothing() {
        makesNothing("field", x -> x.field(6, 6));
        makesNothing("cell", x -> x.cell(0, 9, 9, 9, 9));
        makesNothing("lay", x -> x.lay(0, 7));
        makesNothing("cellOf", x -> x.cellOf(0, 18));
        makesNothing("hour", x -> x.hour());
        makesNothing("person", x -> x.person());
        makesNothing("owner", x -> x.owner(7, 0));
        makesNothing("lease", x -> x.lease(0, 0, 9, 9));
        makesNothing("leaseOf", x -> x.leaseOf(0, 4));
        makesNothing("holds", x -> x.holds(7));
        makesNothing("told", x -> x.told(0, 6));
        makesNothing("drill", x -> x.drill(0, 0, 9));
        makesNothing("why", x -> x.why(0, 0));
        makesNothing("will", x -> x.will(0, 9));
        makesNothing("open", x -> x.open(0, false));
        makesNothing("wellOf", x -> x.wellOf(0, 6));
        makesNothing("drew", x -> x.drew(0, 0, 2));
        makesNothing("sell", x -> x.sell(0, 1));
        makesNothing("price", x -> x.price(1));
        makesNothing("feed", x -> x.feed(0x736875743b202020L));
        makesNothing("end", x -> x.end(5));
        makesNothing("orders", x -> x.orders());
        makesNothing("fault", x -> x.fault());
        makesNothing("line", x -> x.line(0, 2));
        makesNothing("voids", x -> x.voids(2));
        makesNothing("lets", x -> x.lets(0, 0, 0));
        makesNothing("spot", x -> x.spot(0, 0));
        makesNothing("gain", x -> x.gain(4, 60, 9, 24, 15, 3));
        makesNothing("steady", x -> x.steady(4, 60, 9, 24, 2));
        makesNothing("must", x -> x.must(4, 60, 9, 24, 3));
        makesNothing("stand", x -> x.stand(0));
        makesNothing("sheet", x -> x.sheet(2, 2, 72));
        makesNothing("write", x -> x.write(1, 71, 9));
        makesNothing("scan", x -> x.scan(1, 1, 0));
        makesNothing("count", x -> x.count(10));
        due.holds("keep makes a field: so what a call makes is seen here", madeBy(x -> x.keep()) > 4 * SLACK);
    }

    private static void makesNothing(String name, Call call) {
        long bytes = madeBy(call);
        due.holds(name + " makes nothing: " + bytes + " bytes", bytes <= SLACK);
    }

    /** The first time a call is made, the machine may load what it needs: so the second is measured. */
    private static long madeBy(Call call) {
        ThreadMXBean threads = (ThreadMXBean) ManagementFactory.getThreadMXBean();
        long id = Thread.currentThread().getId();
        call.on(Towns.busy());
        OilTown town = Towns.busy();
        threads.getThreadAllocatedBytes(id);
        long before = threads.getThreadAllocatedBytes(id);
        call.on(town);
        return threads.getThreadAllocatedBytes(id) - before;
    }
}
