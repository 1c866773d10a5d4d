import java.lang.management.ManagementFactory;
import java.lang.reflect.Array;
import java.lang.reflect.Field;
import java.lang.reflect.Modifier;
import java.util.ArrayDeque;
import java.util.Collections;
import java.util.Deque;
import java.util.IdentityHashMap;
import java.util.Set;
import java.util.function.IntConsumer;

/**
 * "All calls of one run live in ONE room: some 600,000 objects and arrays, 7.3 million fields and
 * elements in all": what a new object is made of, and what calls make beside it.
 */
public final class RoomTest {
    private static final Due T = new Due("RoomTest");
    private static final int MOST_CALLS = 512;
    private static final int TIMES = 400;
    private static final String FULL = "field 1;person 60;person 9;person 0;person 60;person 1;spider 0 9;spider 1 1;"
            + "spider 2 3;spider 3 9;spider 4 9;spider 0 2;work 60;work 1;work 2;work 3;work 60";

    public static void main(String[] args) throws Exception {
        aNewObject();
        textsMakeLittle();
        allElseMakesNothing();
        T.finish();
    }

    /** Even a run of new objects alone has room. */
    private static void aNewObject() throws Exception {
        long[] made = countAll(new GladSpider());
        T.due("objects of " + made[0] + " have room", made[0] * MOST_CALLS < 600_000 ? 1 : 0, 1);
        T.due("fields and elements of " + made[1] + " have room", made[1] * MOST_CALLS < 7_300_000 ? 1 : 0, 1);
    }

    private static long[] countAll(Object root) throws Exception {
        Set<Object> seen = Collections.newSetFromMap(new IdentityHashMap<>());
        Deque<Object> open = new ArrayDeque<>();
        open.add(root);
        long elements = 0;
        while (!open.isEmpty()) {
            Object one = open.remove();
            if (!seen.add(one)) {
                continue;
            }
            if (one.getClass().isArray()) {
                elements += Array.getLength(one);
                for (int i = 0; one instanceof Object[] row && i < row.length; i++) {
                    addTo(open, row[i]);
                }
                continue;
            }
            for (Field f : one.getClass().getDeclaredFields()) {
                if (!Modifier.isStatic(f.getModifiers())) {
                    f.setAccessible(true);
                    elements++;
                    addTo(open, f.getType().isPrimitive() ? null : f.get(one));
                }
            }
        }
        return new long[] {seen.size(), elements};
    }

    private static void addTo(Deque<Object> open, Object one) {
        if (one != null) {
            open.add(one);
        }
    }

    /** A FIELD is five small objects; a RULE is made six times at most, and a FAULT makes no RULE. */
    private static void textsMakeLittle() {
        GladSpider g = new GladSpider();
        makesAtMost("field", 400, i -> Due.field(g, FULL), i -> Due.tape(g, FULL));
        String spoilt = "take 1 if glad > 0;take 1 + 2 * 3 if not [ day < 5 ] ]";
        makesAtMost("rule with a FAULT", 0, i -> Due.rule(g, spoilt), i -> Due.tape(g, spoilt));
        String rule = "take carries - 1 if with > 0";
        for (int r = 0; r < 6; r++) {
            T.due("rule", Due.rule(g, rule), r);
        }
        makesAtMost("a seventh rule", 0, i -> Due.rule(g, rule), i -> Due.tape(g, rule));
    }

    private static void allElseMakesNothing() {
        GladSpider g = Due.on(FULL, "take 1 if glad * 3 - own / 2 > hedge % 5 or with = 0",
                "take 1 if not [ lying > 0 ] and day >= need");
        makesAtMost("feed, end", 0, i -> g.end(g.feed(i, i, i, i, i) - 20), i -> { });
        makesAtMost("acts and what undoes them", 0, i -> {
            g.force(i % 3 - 1);
            g.lie(i % 5);
            g.cheer(i % 5, 3);
            g.give(i % 5, (i + 1) % 5, i % 5);
            g.brush(i % 6, i % 5);
            g.day();
            g.day();
            g.undo();
        }, i -> { });
        makesAtMost("images and notes", 0, i -> {
            g.image(i % 4);
            g.note(i % 11 - 1, i % 5, i);
            g.seed(i);
            g.back((i + 1) % 4);
        }, i -> { });
        makesAtMost("what shows all as it is", 0, i -> {
            g.person(i % 5, i % 7);
            g.spider(i % 6, i % 5);
            g.inHedge(i % 5);
            g.work(i % 5);
            g.count(i % 15);
        }, i -> { });
        makesAtMost("what is asked", 0, i -> ask(g, i), i -> { });
    }

    private static void ask(GladSpider g, int i) {
        g.ahead(i % 5, i % 20, i % 4);
        g.made(1 + i % 5);
        g.even(i % 5);
        g.home(i % 6, i % 2);
        g.lowest(i % 5, 1 + i % 20, i % 2);
        g.lying(1 + i % 3, i % 2);
        g.had(i % 5, 1 + i % 3, i % 60, i % 2);
        g.brushed(i % 6, 1 + i % 9, i % 3);
        g.skip(i, i % 2);
        g.owed(i % 2);
        g.rests(i % 5, (i + 1) % 5, 1 + i % 9, i % 3);
        g.ring(i % 2);
        g.pence(i, i % 5);
        g.ruled(i % 2);
        g.look(i % 20, i % 2);
        g.breezes(1 + i % 3, 1 + i % 9, 50, i % 2);
    }

    /** How many bytes a call makes, less those that the tests' own part of it makes. */
    private static void makesAtMost(String call, long bytes, IntConsumer all, IntConsumer ownPart) {
        made(all);
        made(ownPart);
        long each = (made(all) - made(ownPart)) / TIMES;
        T.due(call + " makes at most " + bytes + " bytes, made " + each, each <= bytes ? 1 : 0, 1);
    }

    private static long made(IntConsumer calls) {
        com.sun.management.ThreadMXBean threads = (com.sun.management.ThreadMXBean) ManagementFactory.getThreadMXBean();
        long id = Thread.currentThread().getId();
        long before = threads.getThreadAllocatedBytes(id);
        for (int i = 0; i < TIMES; i++) {
            calls.accept(i);
        }
        return threads.getThreadAllocatedBytes(id) - before;
    }
}
