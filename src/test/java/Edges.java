import java.util.HashMap;
import java.util.Map;

/** Asks a call at the edges of one of its numbers, and whether what is refused changed nothing. */
final class Edges {
    interface Call {
        int of(OilTown x, int v);
    }

    /** Where the answer to what is let is told by another test. */
    static final long ANY = Long.MIN_VALUE;

    private final Due due;
    private final Map<Towns.Maker, String> pictures = new HashMap<>();

    Edges(Due due) {
        this.due = due;
    }

    /** least and most are let, with these answers; the numbers next to them and the farthest are refused. */
    void of(String call, Towns.Maker maker, int least, long atLeast, int most, long atMost, long refused, Call asked) {
        let(call, maker, least, atLeast, refused, asked);
        let(call, maker, most, atMost, refused, asked);
        refused(call, maker, refused, asked, least - 1, most + 1, Integer.MIN_VALUE, Integer.MAX_VALUE);
    }

    private void let(String call, Towns.Maker maker, int v, long want, long refused, Call asked) {
        long got = asked.of(maker.make(), v);
        if (want == ANY) {
            due.holds(call + " of " + v + " is let", got != refused);
        } else {
            due.is(call + " of " + v, got, want);
        }
    }

    /** Each of these numbers is refused, and changes nothing. */
    void refused(String call, Towns.Maker maker, long refused, Call asked, int... numbers) {
        for (int v : numbers) {
            due.is(call + " of " + v, asked.of(maker.make(), v), refused);
            unchanged(call + " of " + v, maker, x -> asked.of(x, v));
        }
    }

    interface Act {
        void on(OilTown x);
    }

    /** A town is as it was behind these calls. */
    void unchanged(String call, Towns.Maker maker, Act act) {
        String before = pictures.computeIfAbsent(maker, Picture::of);
        String behind = Picture.of(() -> {
            OilTown x = maker.make();
            act.on(x);
            return x;
        });
        due.holds(call + " changes nothing", before.equals(behind));
    }
}
