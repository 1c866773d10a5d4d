/** Promises 17 to 29: what is asked, by which nothing changes. */
public final class AskTest {
    private static final Due T = new Due("AskTest");

    public static void main(String[] args) {
        ahead();
        made();
        even();
        home();
        lowest();
        lying();
        had();
        brushed();
        skip();
        owed();
        rests();
        ring();
        pence();
        nothingChanges();
        T.finish();
    }

    private static void ahead() {
        GladSpider g = Due.on(SummerTest.FIELD, "take 0");
        T.due("0 days", g.ahead(0, 0, 0), 5);
        T.due("1 day", g.ahead(0, 1, 0), 2);
        T.due("100 days", g.ahead(0, 100, 0), 0);
        T.due("hedge", g.ahead(0, 3, 2), 2);
        T.due("works", g.ahead(0, 3, 3), 1);
        T.due("works, person not asked", g.ahead(99, 3, 3), 1);
        T.due("hedge, person not asked", g.ahead(-1, 8, 2), 4);
        T.due("person 2", g.ahead(2, 3, 0), -1);
        T.due("person -1", g.ahead(-1, 3, 1), -1);
        T.due("n 101", g.ahead(0, 101, 0), -1);
        T.due("n -1", g.ahead(0, -1, 2), -1);
        T.due("what 4", g.ahead(0, 1, 4), -1);
        T.due("what -1", g.ahead(0, 1, -1), -1);
        g.lie(1);
        T.due("pieces", g.ahead(1, 5, 0), 4);
        T.due("own", g.ahead(1, 5, 1), 1);
        g.lie(1);
        g.force(0);
        T.due("by the rule in force", g.ahead(0, 100, 0), 5);
    }

    private static void made() {
        GladSpider g = Due.on(SummerTest.FIELD);
        T.due("made 1", g.made(1), 2);
        T.due("made 2", g.made(2), -2);
        T.due("made 5", g.made(5), -2);
        T.due("made 0", g.made(0), -1);
        T.due("made 6", g.made(6), -1);
        Due.days(g, 2);
        T.due("this one the first", g.made(1), 2);
        Due.days(g, 2);
        T.due("built before", g.made(1), 4);
        GladSpider h = Due.on("field 1;person 9;spider 0 1;work 1", "take 1 if day = 198", "take 1 if day = 199");
        h.force(0);
        T.due("the last of 200", h.made(1), 199);
        h.force(1);
        T.due("none of 200", h.made(1), -2);
        h.day();
        T.due("of 200 from now on", h.made(1), 200);
        T.due("no works", Due.on("field 1").made(1), -2);
    }

    private static void even() {
        GladSpider g = Due.on("field 1;person 3;spider 0 2", "take 1 if day = 199", "take 1 if day = 200");
        T.due("never", g.even(0), -2);
        g.cheer(0, 2);
        T.due("the one behind this", g.even(0), 1);
        g.force(0);
        T.due("the last of 200", g.even(0), 200);
        g.force(1);
        T.due("none of 200", g.even(0), -2);
        g.day();
        T.due("of 200 from now on", g.even(0), 201);
        T.due("person 1", g.even(1), -1);
        T.due("person -1", g.even(-1), -1);
        T.due("at once as told", Due.on("field 1;person 3").even(0), 1);
        GladSpider h = Due.on("field 9;person 3;spider 0 1");
        h.cheer(0, 9);
        h.cheer(0, 2);
        T.due("eleven ways", h.even(0), 10 * 19 + 1);
        h.cheer(0, 1);
        T.due("twelve ways", h.even(0), -2);
    }

    private static void home() {
        GladSpider g = Due.on(SummerTest.FIELD);
        T.due("ON now", g.home(0, 0), 0);
        T.due("ON whose", g.home(1, 1), 1);
        g.day();
        T.due("the day", g.home(0, 0), 5);
        T.due("whose", g.home(1, 1), 0);
        g.lie(1);
        T.due("whose", g.home(0, 1), 1);
        T.due("spider 2", g.home(2, 0), -1);
        T.due("spider -1", g.home(-1, 0), -1);
        T.due("what 2", g.home(0, 2), -1);
        T.due("what -1", g.home(0, -1), -1);
    }

    private static void lowest() {
        GladSpider g = Due.on(SummerTest.FIELD);
        T.due("in 1", g.lowest(0, 1, 0), 2);
        T.due("its day", g.lowest(0, 1, 1), 0);
        T.due("in 5", g.lowest(0, 5, 0), 2);
        T.due("the first of several", g.lowest(0, 5, 1), 0);
        T.due("in 6", g.lowest(0, 6, 0), 0);
        T.due("its day", g.lowest(0, 6, 1), 5);
        T.due("in 100", g.lowest(0, 100, 1), 5);
        T.due("n 0", g.lowest(0, 0, 0), -1);
        T.due("n 101", g.lowest(0, 101, 0), -1);
        T.due("what 2", g.lowest(0, 1, 2), -1);
        T.due("what -1", g.lowest(0, 1, -1), -1);
        T.due("person 2", g.lowest(2, 1, 0), -1);
        T.due("person -1", g.lowest(-1, 1, 0), -1);
        Due.days(g, 3);
        g.cheer(0, 7);
        T.due("from now on", g.lowest(0, 1, 0), 9);
        T.due("its day", g.lowest(0, 1, 1), 3);
    }

    private static void lying() {
        GladSpider g = Due.on(SummerTest.FIELD);
        // Nobody: 2. The first one: 5 and the one of the other's. The second one: 2, and 1 and 3. Both: 6.
        T.due("set", g.lying(5, 0), 1);
        T.due("pieces", g.lying(5, 1), 6);
        g.lie(1);
        T.due("set, whoever lies now", g.lying(5, 0), 1);
        T.due("n 0", g.lying(0, 0), -1);
        T.due("n 41", g.lying(41, 0), -1);
        T.due("n 40", g.lying(40, 1), 6);
        T.due("what 2", g.lying(1, 2), -1);
        T.due("what -1", g.lying(1, -1), -1);
        GladSpider h = Due.on("field 1;person 5;person 2");
        h.lie(0);
        T.due("nobody", h.lying(9, 0), 0);
        T.due("pieces", h.lying(9, 1), 7);
        T.due("no people", Due.on("field 1").lying(9, 1), 0);
        // Each keeps their own alone, so both must; the third one has nothing to keep.
        GladSpider k = Due.on("field 1;person 5;person 5;person 0;spider 0 2;spider 1 2;spider 2 9");
        T.due("fewest of several", k.lying(1, 0), 3);
        T.due("pieces", k.lying(1, 1), 10);
    }

    private static void had() {
        GladSpider g = Due.on("field 1;person 5;spider 0 3");
        T.due("to have 0", g.had(0, 1, 0, 0), 4);
        T.due("least", g.had(0, 1, 0, 1), 0);
        T.due("to have 2", g.had(0, 1, 2, 0), 1);
        T.due("least", g.had(0, 1, 2, 1), 5);
        T.due("to have 57", g.had(0, 1, 57, 1), 60);
        T.due("to have 58", g.had(0, 1, 58, 0), 0);
        T.due("there is none", g.had(0, 1, 58, 1), -2);
        T.due("to have 200", g.had(0, 40, 200, 1), -2);
        T.due("n 0", g.had(0, 0, 0, 0), -1);
        T.due("n 41", g.had(0, 41, 0, 0), -1);
        T.due("much -1", g.had(0, 1, -1, 0), -1);
        T.due("much 201", g.had(0, 1, 201, 0), -1);
        T.due("what 2", g.had(0, 1, 0, 2), -1);
        T.due("what -1", g.had(0, 1, 0, -1), -1);
        T.due("person 1", g.had(1, 1, 0, 0), -1);
        T.due("person -1", g.had(-1, 1, 0, 0), -1);
        GladSpider h = Due.on(SummerTest.FIELD);
        h.give(1, 0, 1);
        T.due("beside another's", h.had(0, 1, 0, 0), 3);
        T.due("least", h.had(0, 1, 0, 1), 0);
        T.due("beside another's", h.had(0, 1, 3, 1), 5);
    }

    private static void brushed() {
        GladSpider g = Due.on("field 1;person 0;person 9;person 9;spider 0 2;work 2");
        T.due("whose", g.brushed(0, 2, 0), 1);
        T.due("works", g.brushed(0, 2, 1), 1);
        T.due("pieces", g.brushed(0, 2, 2), 0);
        T.due("nothing yet, where it is", g.brushed(0, 1, 0), 0);
        g.brush(0, 2);
        T.due("where it is", g.brushed(0, 2, 0), 2);
        T.due("n 0", g.brushed(0, 0, 0), -1);
        T.due("n 41", g.brushed(0, 41, 0), -1);
        T.due("what 3", g.brushed(0, 1, 3), -1);
        T.due("what -1", g.brushed(0, 1, -1), -1);
        T.due("spider 1", g.brushed(1, 1, 0), -1);
        T.due("spider -1", g.brushed(-1, 1, 0), -1);
        g.day();
        T.due("OUT", g.brushed(0, 1, 0), -1);
        g.day();
        T.due("BACK", g.brushed(0, 1, 0), -1);
        GladSpider h = Due.on("field 1;person 1;person 3;spider 0 3;work 9");
        T.due("whose", h.brushed(0, 2, 0), 1);
        T.due("works", h.brushed(0, 2, 1), 0);
        T.due("pieces", h.brushed(0, 2, 2), 3);
        // A work counts before what is left in the hedge: 3 - 3 and one work, or 2 and none.
        GladSpider k = Due.on("field 1;person 2;person 3;spider 0 3;work 3");
        T.due("whose", k.brushed(0, 2, 0), 1);
        T.due("works", k.brushed(0, 2, 1), 1);
        T.due("pieces", k.brushed(0, 2, 2), 0);
    }

    private static void skip() {
        GladSpider g = Due.on(SummerTest.FIELD);
        int[] loads = {0, 1, 2, 8, 9, 10, 11, 300};
        int[] much = {0, 0, 2, 2, 9, 9, 11, 11};
        int[] sets = {0, 0, 1, 1, 2, 2, 3, 3};
        for (int i = 0; i < loads.length; i++) {
            T.due("skip " + loads[i], g.skip(loads[i], 0), much[i]);
            T.due("set " + loads[i], g.skip(loads[i], 1), sets[i]);
        }
        T.due("load -1", g.skip(-1, 0), -1);
        T.due("load 301", g.skip(301, 0), -1);
        T.due("what 2", g.skip(0, 2), -1);
        T.due("what -1", g.skip(0, -1), -1);
        Due.days(g, 3);
        T.due("not what is built", g.skip(11, 0), 9);
        T.due("its bits", g.skip(11, 1), 2);
        T.due("not what is built", g.skip(8, 0), 0);
        GladSpider h = Due.on("field 1;work 3;work 5;work 2;work 3;work 60");
        T.due("least as bits", h.skip(5, 1), 2);
        T.due("least as bits", h.skip(3, 1), 1);
        T.due("least as bits", h.skip(8, 1), 3);
        T.due("all", h.skip(300, 0), 73);
        T.due("all", h.skip(300, 1), 31);
    }

    private static void owed() {
        GladSpider g = Due.on("field 1;person 9;person 9;person 9");
        T.due("nothing", g.owed(0), 0);
        T.due("the least", g.owed(1), 0);
        g.give(0, 1, 0);
        g.give(0, 1, 0);
        g.give(0, 1, 0);
        g.give(1, 0, 1);
        g.give(2, 0, 2);
        T.due("2 to the first, 1 to the third", g.owed(0), 3);
        T.due("1 and 1", g.owed(1), 0);
        g.give(2, 0, 2);
        T.due("2 and 2", g.owed(0), 4);
        T.due("0 and 2", g.owed(1), 2);
        // Who has another one's owes the one whose it is, not the one who gave it.
        g.give(0, 1, 2);
        T.due("2, 1, 1", g.owed(0), 4);
        T.due("1, -3, 2", g.owed(1), 2);
        T.due("what 2", g.owed(2), -1);
        T.due("what -1", g.owed(-1), -1);
        T.due("no people", Due.on("field 1").owed(0), 0);
        T.due("no people", Due.on("field 1").owed(1), -2);
    }

    private static void rests() {
        GladSpider g = Due.on(SummerTest.FIELD);
        // (0, 0): 6, 0. (0, 1): 6, 6. (1, 0): 16, 0. (1, 1): 15, 3.
        T.due("how many", g.rests(0, 1, 5, 0), 1);
        T.due("one", g.rests(0, 1, 5, 1), 1);
        T.due("other", g.rests(0, 1, 5, 2), 1);
        T.due("alike", g.rests(1, 1, 5, 0), -1);
        T.due("n 0", g.rests(0, 1, 0, 0), -1);
        T.due("n 21", g.rests(0, 1, 21, 0), -1);
        T.due("what 3", g.rests(0, 1, 1, 3), -1);
        T.due("what -1", g.rests(0, 1, 1, -1), -1);
        T.due("one 2", g.rests(2, 1, 1, 0), -1);
        T.due("one -1", g.rests(-1, 1, 1, 0), -1);
        T.due("other 2", g.rests(0, 2, 1, 0), -1);
        T.due("other -1", g.rests(0, -1, 1, 0), -1);
        GladSpider h = Due.on("field 1;person 5;person 5;spider 1 2");
        T.due("whatever the first does", h.rests(0, 1, 1, 0), 2);
        T.due("first of them", h.rests(0, 1, 1, 1), 0);
        T.due("first of them", h.rests(0, 1, 1, 2), 1);
        T.due("the other way about", h.rests(1, 0, 1, 1), 1);
        T.due("the other way about", h.rests(1, 0, 1, 2), 0);
        h.lie(1);
        T.due("whoever lies now", h.rests(0, 1, 1, 2), 1);
        GladSpider k = Due.on("field 1;person 5;person 5");
        T.due("all four", k.rests(0, 1, 20, 0), 4);
        T.due("first of them", k.rests(0, 1, 20, 1), 0);
        T.due("first of them", k.rests(0, 1, 20, 2), 0);
    }

    private static void ring() {
        GladSpider g = Due.on("field 1;person 5");
        T.due("at once", g.ring(0), 0);
        T.due("1 later", g.ring(1), 1);
        T.due("what 2", g.ring(2), -1);
        T.due("what -1", g.ring(-1), -1);
        GladSpider h = Due.on(SummerTest.FIELD);
        T.due("the day", h.ring(0), 10);
        T.due("1 later", h.ring(1), 1);
        GladSpider k = Due.on("field 2;person 5;spider 0 3");
        k.lie(0);
        T.due("there and back", k.ring(0), 0);
        T.due("5 later", k.ring(1), 5);
        Due.days(k, 3);
        T.due("from now on", k.ring(0), 3);
        GladSpider i = Due.on("field 1;person 5;person 5;spider 1 3");
        i.lie(0);
        i.lie(1);
        T.due("ON whose is told apart", i.ring(0), 1);
        T.due("3 later", i.ring(1), 3);
        GladSpider j = Due.on("field 2;person 5;person 5;spider 1 3");
        j.lie(1);
        Due.days(j, 3);
        j.lie(0);
        T.due("BACK to whom is told apart", j.ring(0), 6);
        T.due("5 later", j.ring(1), 5);
        GladSpider m = Due.on("field 1;person 60;spider 0 1", "take 1 if day < 60", "take 1 if day < 57");
        T.due("none", m.ring(0), -2);
        T.due("none", m.ring(1), -2);
        m.force(1);
        T.due("the day", m.ring(0), 57);
        m.force(0);
        T.due("none by 60", m.ring(0), -2);
        m.day();
        T.due("the last of 60", m.ring(0), 60);
        T.due("1 later", m.ring(1), 1);
    }

    private static void pence() {
        GladSpider g = Due.on(SummerTest.FIELD);
        T.due("7: 5 and 5 of 6", g.pence(7, 0), 6);
        T.due("7: 1 and 1 of 6", g.pence(7, 1), 1);
        T.due("4: 3 and 2 of 6", g.pence(4, 0), 3);
        T.due("4: 4 of 6", g.pence(4, 1), 1);
        T.due("9999, the least first", g.pence(9999, 0), 8333);
        T.due("9999", g.pence(9999, 1), 1666);
        T.due("0", g.pence(0, 0), 0);
        T.due("much -1", g.pence(-1, 0), -1);
        T.due("much 10000", g.pence(10000, 0), -1);
        T.due("person 2", g.pence(1, 2), -1);
        T.due("person -1", g.pence(1, -1), -1);
        GladSpider h = Due.on("field 1;person 3;person 3;person 3;person 0");
        T.due("5 of three", h.pence(5, 0), 2);
        T.due("5 of three", h.pence(5, 1), 2);
        T.due("5 of three", h.pence(5, 2), 1);
        T.due("5 by nothing", h.pence(5, 3), 0);
        T.due("no pieces", Due.on("field 1;person 0;person 0").pence(9, 0), 0);
    }

    private static void nothingChanges() {
        GladSpider g = Due.on(SummerTest.FIELD, "take 1");
        g.force(0);
        g.lie(1);
        Due.days(g, 2);
        g.seed(9);
        int[] before = Snapshot.of(g);
        g.ahead(0, 50, 0);
        g.made(2);
        g.even(0);
        g.home(0, 0);
        g.lowest(0, 50, 0);
        g.lying(20, 0);
        g.had(0, 20, 5, 0);
        g.brushed(0, 20, 0);
        g.skip(20, 0);
        g.owed(0);
        g.rests(0, 1, 10, 0);
        g.ring(0);
        g.pence(20, 0);
        g.ruled(0);
        g.look(20, 0);
        g.breezes(3, 20, 50, 0);
        int[] after = Snapshot.of(g);
        for (int i = 0; i < before.length; i++) {
            T.due("unchanged " + i, after[i], before[i]);
        }
    }
}
