import java.util.ArrayList;
import java.util.List;
import java.util.function.Consumer;
import java.util.function.ToIntFunction;

/**
 * Whether a call left all as it was. The way to an object is gone twice for each probe, once with
 * the call and once without, because a probe that undoes, goes back or reads the TAPE can be made
 * but once.
 */
final class Same {
    private static final int PROBES = 6;

    private final Due due;
    private final Consumer<GladSpider> way;
    private final List<List<Integer>> without = new ArrayList<>();

    Same(Due due, Consumer<GladSpider> way) {
        this.due = due;
        this.way = way;
        for (int kind = 0; kind < PROBES; kind++) {
            without.add(probe(made(), kind));
        }
    }

    GladSpider made() {
        GladSpider g = new GladSpider();
        way.accept(g);
        return g;
    }

    /** The call answers so, and nothing happens. */
    void stays(String call, ToIntFunction<GladSpider> does, int want) {
        for (int kind = 0; kind < PROBES; kind++) {
            GladSpider g = made();
            due.due(call, does.applyAsInt(g), want);
            isAsWithout(call, g, kind);
        }
    }

    /** The call answers anything but that, and nothing happens. */
    void staysAsked(String call, ToIntFunction<GladSpider> asks, int refused) {
        for (int kind = 0; kind < PROBES; kind++) {
            GladSpider g = made();
            int got = asks.applyAsInt(g);
            due.due(call + " is answered, not refused by " + refused, got == refused ? 1 : 0, 0);
            isAsWithout(call, g, kind);
        }
    }

    private void isAsWithout(String call, GladSpider g, int kind) {
        due.due("all as without " + call + ", probe " + kind, probe(g, kind).equals(without.get(kind)) ? 1 : 0, 1);
    }

    private static List<Integer> probe(GladSpider g, int kind) {
        List<Integer> seen = new ArrayList<>();
        switch (kind) {
            case 0 -> snapshot(g, seen);
            case 1 -> undone(g, seen);
            case 2 -> images(g, seen);
            case 3 -> tape(g, seen);
            case 4 -> rulesAndNotes(g, seen);
            default -> days(g, seen);
        }
        return seen;
    }

    private static void snapshot(GladSpider g, List<Integer> seen) {
        for (int number : Snapshot.of(g)) {
            seen.add(number);
        }
    }

    private static void brief(GladSpider g, List<Integer> seen) {
        for (int what = 5; what <= 13; what++) {
            seen.add(g.count(what));
        }
        for (int n = 0; n < 5; n++) {
            seen.add(g.person(n, 0));
            seen.add(g.spider(n, 2));
        }
    }

    private static void undone(GladSpider g, List<Integer> seen) {
        for (int n = 0; n < 21 && g.count(12) > 0; n++) {
            seen.add(g.undo());
            seen.add(g.count(6));
            seen.add(g.count(7));
            seen.add(g.count(10));
        }
        seen.add(g.undo());
        snapshot(g, seen);
    }

    private static void images(GladSpider g, List<Integer> seen) {
        for (int k = 0; k < 4; k++) {
            seen.add(g.back(k));
            brief(g, seen);
        }
    }

    /** Its bytes show by what they are read as. */
    private static void tape(GladSpider g, List<Integer> seen) {
        seen.add(g.field());
        snapshot(g, seen);
    }

    private static void rulesAndNotes(GladSpider g, List<Integer> seen) {
        seen.add(g.ruled(0));
        seen.add(g.ruled(1));
        for (int n = 0; n < 6; n++) {
            seen.add(g.look(n, 1));
        }
        for (int rule = -1; rule < 6; rule++) {
            seen.add(g.force(rule));
            for (int n = 1; n < 40; n += 9) {
                seen.add(g.ahead(0, n, 0));
            }
        }
        seen.add(g.rule());
    }

    private static void days(GladSpider g, List<Integer> seen) {
        for (int n = 0; n < 12; n++) {
            seen.add(g.day());
            brief(g, seen);
        }
        seen.add(g.breezes(3, 20, 50, 0));
        snapshot(g, seen);
    }
}
