import java.util.List;

/** Promises 30 to 37 at their edges: NOTES, RULES that fit them, DRAWS, counts, IMAGES. The words in quotes are the document's. */
public final class KeepEdgeTest {
    private static final Due T = new Due("KeepEdgeTest");

    public static void main(String[] args) {
        notes0To9();
        numbersOfNotes();
        ruledOnDays0To60();
        ruledOfAllAndNone();
        ruledFromTheBeginOn();
        lookOnDays0To60();
        lookOfSeveral();
        lookWithoutAny();
        draws();
        xAtItsEdges();
        breezes1To10();
        breezes1To60();
        breezes0To100();
        breezesOfPeopleInTurn();
        breezesWithout();
        countsOfNothing();
        countsOfAll();
        images0To3();
        imagesKeepAll();
        whatImagesDoNotKeep();
        nothingIsUndoneThen();
        T.finish();
    }

    private static GladSpider on(String field, String rule) {
        GladSpider g = Due.on(field, rule);
        g.force(0);
        return g;
    }

    /** "NOTES 0 to 9": "-2, and nothing happens, .. if there are 10". "(n NONE: there are none then, 0)". */
    private static void notes0To9() {
        GladSpider g = Due.on("field 1;person 9", "take 0");
        for (int round = 0; round < 3; round++) {
            for (int n = 1; n <= 10; n++) {
                T.due("note", g.note(0, 0, n < 10 ? 9 : 8), n);
                T.due("notes", g.count(11), n);
                T.due("so, but for the tenth", g.ruled(0), n < 10 ? 2 : 0);
            }
            for (int n = 0; n < 3; n++) {
                T.due("an eleventh", g.note(0, 0, 9), -2);
                T.due("ten", g.count(11), 10);
            }
            T.due("none then", g.note(-1, 0, 0), 0);
            T.due("none", g.count(11), 0);
            T.due("all are so", g.ruled(0), 2);
            T.due("none of none", g.note(-1, 0, 0), 0);
        }
        for (int[] rest : new int[][] {{5, 0}, {-1, 0}, {0, 301}, {0, -1}, {Integer.MIN_VALUE, Integer.MAX_VALUE}}) {
            g.note(0, 0, 1);
            T.due("none, whatever else is told", g.note(-1, rest[0], rest[1]), 0);
            T.due("none", g.count(11), 0);
        }
    }

    /** "the n-th DAY of all (0 to 60)", "so many PIECES (0 to 300)". */
    private static void numbersOfNotes() {
        Same same = new Same(T, g -> {
            Due.field(g, "field 1;person 9;person 0");
            g.note(0, 0, 9);
        });
        for (int n : new int[] {-2, 61, Integer.MIN_VALUE, Integer.MAX_VALUE}) {
            same.stays("day " + n, g -> g.note(n, 0, 9), -2);
        }
        for (int person : new int[] {-1, 2, Integer.MIN_VALUE, Integer.MAX_VALUE}) {
            same.stays("person " + person, g -> g.note(0, person, 9), -2);
        }
        for (int many : new int[] {-1, 301, Integer.MIN_VALUE, Integer.MAX_VALUE}) {
            same.stays("many " + many, g -> g.note(0, 0, many), -2);
        }
        for (int[] note : new int[][] {{0, 0, 0}, {60, 0, 0}, {0, 1, 0}, {0, 0, 300}, {60, 1, 300}}) {
            T.due("note", same.made().note(note[0], note[1], note[2]), 2);
        }
        T.due("without a field", new GladSpider().note(0, 0, 0), -2);
        T.due("without people", Due.on("field 1").note(0, 0, 0), -2);
    }

    /** "at the begin of the n-th DAY": what is taken in DAY n shows at DAY n + 1. */
    private static void ruledOnDays0To60() {
        for (int day = 0; day < 60; day++) {
            GladSpider g = Due.on("field 1;person 9;spider 0 2", "take 0", "take 1 if day=" + day);
            g.note(day, 0, 9);
            T.due("ahead of " + day, g.ruled(0), day == 0 ? 3 : 2);
            T.due("the first", g.ruled(1), day == 0 ? -1 : 0);
            g.note(day + 1, 0, 7);
            T.due("behind " + day, g.ruled(0), day == 0 ? 2 : 1);
            T.due("the first", g.ruled(1), day == 0 ? -1 : 1);
            g.note(day + 1, 0, 9);
            T.due("both are not so", g.ruled(0), 0);
            T.due("there is none such", g.ruled(1), -2);
        }
        GladSpider g = Due.on("field 1;person 9;spider 0 2", "take 1 if day=60", "take 1 if day=59");
        g.note(60, 0, 9);
        T.due("gone later", g.ruled(1), 0);
        T.due("gone later", g.ruled(0), 1);
    }

    /** "which of the RULES, and of none": "how many; the first (none ahead of 0, told as NONE)". */
    private static void ruledOfAllAndNone() {
        GladSpider g = Due.on("field 1;person 9;spider 0 2");
        T.due("none alone", g.ruled(0), 1);
        T.due("none alone", g.ruled(1), -1);
        for (int rules = 1; rules <= 6; rules++) {
            Due.rule(g, "take 0");
            T.due("all", g.ruled(0), rules + 1);
            T.due("none ahead of 0", g.ruled(1), -1);
        }
        g.note(1, 0, 9);
        T.due("not none", g.ruled(0), 6);
        T.due("0 is the first", g.ruled(1), 0);
        g.note(1, 0, 7);
        T.due("neither", g.ruled(0), 0);
        T.due("neither", g.ruled(1), -2);
        for (int what : new int[] {-1, 2, Integer.MIN_VALUE, Integer.MAX_VALUE}) {
            T.due("others", g.ruled(what), -3);
            T.due("without a field", new GladSpider().ruled(what), -3);
        }
        T.due("without a field", new GladSpider().ruled(0), -3);
        T.due("without a field", new GladSpider().ruled(1), -3);
        GladSpider h = Due.on("field 1;person 9;spider 0 2", "take 0", "take 0", "take 0", "take 0", "take 0", "take 1 if day=0");
        h.note(1, 0, 7);
        h.note(60, 0, 7);
        T.due("the last alone", h.ruled(0), 1);
        T.due("the last alone", h.ruled(1), 5);
    }

    /** "from the begin on, all as the text told it": whatever was done since, and whichever RULE is IN FORCE. */
    private static void ruledFromTheBeginOn() {
        GladSpider g = Due.on("field 1;person 9;person 4;spider 0 2;work 1", "take 0", "take 1");
        g.note(1, 0, 7);
        for (int n = 0; n < 5; n++) {
            T.due("none and 1", g.ruled(0), 2);
            T.due("none is first", g.ruled(1), -1);
            T.due("they part not", g.look(2, 1), 2);
            switch (n) {
                case 0 -> g.lie(0);
                case 1 -> g.cheer(0, 9);
                case 2 -> g.brush(0, 1);
                case 3 -> g.force(0);
                default -> Due.days(g, 7);
            }
        }
        T.due("asked again", g.ruled(0), 2);
        g.give(1, 0, 1);
        T.due("asked again", g.ruled(0), 2);
    }

    /** "LOOK (n 0 to 60)". */
    private static void lookOnDays0To60() {
        GladSpider g = Due.on("field 1;person 3;person 9;spider 1 2", "take 0", "take 1 if day=59");
        g.note(1, 1, 9);
        T.due("alike on day 0", g.look(0, 1), 2);
        T.due("the least", g.look(0, 0), 0);
        T.due("alike on day 59", g.look(59, 1), 2);
        T.due("the least", g.look(59, 0), 0);
        T.due("they part on day 60", g.look(60, 1), 1);
        T.due("by the second one", g.look(60, 0), 1);
        T.due("61", g.look(61, 0), -1);
        T.due("-1", g.look(-1, 0), -1);
        // Looked at ahead of the NOTES, they are sorted out by these all the same.
        GladSpider h = Due.on("field 1;person 9;spider 0 2", "take 0", "take 1 if day=1");
        h.note(3, 0, 7);
        T.due("none and 1", h.ruled(0), 2);
        T.due("they part on day 1", h.look(1, 1), 1);
        T.due("alike on day 0", h.look(0, 1), 2);
        T.due("alike on day 2", h.look(2, 1), 2);
        h.note(60, 0, 300);
        T.due("no rule is so", h.look(1, 1), -2);
        T.due("no rule is so", h.look(1, 0), -2);
    }

    /** "the most alike are fewest, of several the least". */
    private static void lookOfSeveral() {
        String field = "field 1;person 9;person 9;person 9;person 9;person 9;spider 0 1;spider 1 1;spider 2 1;spider 3 1;spider 4 1";
        GladSpider g = Due.on(field, "take 1 if person=4", "take 1 if person=4 and day=0", "take 0", "take 0");
        // Behind DAY 0: 8 by none, 9 by the four, but for the last: 8 by none and two, 9 by two.
        T.due("by the last", g.look(1, 0), 4);
        T.due("3 and 2", g.look(1, 1), 3);
        T.due("all alike", g.look(0, 0), 0);
        T.due("all alike", g.look(0, 1), 5);
        GladSpider h = Due.on(field, "take 1 if person<2");
        T.due("by the third", h.look(1, 0), 2);
        T.due("1 and 1", h.look(1, 1), 1);
        GladSpider k = Due.on(field, "take 1 if person=0", "take 1 if person=1", "take 1 if person=2", "take 1 if person=3",
                "take 1 if person=4", "take 0");
        // By each one are alike: none and one RULE, and five.
        T.due("the least of all", k.look(1, 0), 0);
        T.due("5 of 7", k.look(1, 1), 5);
        k.note(1, 0, 9);
        T.due("five are so", k.ruled(0), 5);
        T.due("by the first all are alike, by the second 4", k.look(1, 0), 1);
        T.due("4 of 5", k.look(1, 1), 4);
        k.note(1, 1, 9);
        k.note(1, 2, 9);
        k.note(1, 3, 9);
        T.due("by the last of two", k.look(1, 0), 4);
        T.due("1 of 2", k.look(1, 1), 1);
        k.note(1, 4, 9);
        T.due("one alone is so", k.look(1, 1), 1);
        T.due("the least", k.look(1, 0), 0);
    }

    /** "-2: no RULE is so, or there are no PEOPLE. NONE without these, or a FIELD." */
    private static void lookWithoutAny() {
        GladSpider g = Due.on("field 1;work 3", "take 1");
        for (int what = 0; what <= 1; what++) {
            T.due("no people", g.look(0, what), -2);
            T.due("no people", g.look(60, what), -2);
            T.due("no people, 61", g.look(61, what), -1);
            T.due("no people, -1", g.look(-1, what), -1);
            T.due("no field", new GladSpider().look(0, what), -1);
        }
        T.due("no people, what 2", g.look(0, 2), -1);
        T.due("no rules told", Due.on("field 1;person 3").look(9, 0), 0);
        T.due("none alone", Due.on("field 1;person 3").look(9, 1), 1);
    }

    /** "x becomes x * 1103515245 + 12345, of 2147483648 the rest; a DRAW is x / 65536": held against these in 64 bits. */
    private static void draws() {
        for (long x : new long[] {0, 1, 2, 12345, 65535, 65536, 1043980748, 1073741823, 1073741824, 2147483646, 2147483647}) {
            long next = (x * 1103515245L + 12345L) % 2147483648L;
            int hundredth = (int) (next / 65536 % 100);
            long second = (next * 1103515245L + 12345L) % 2147483648L;
            int which = (int) (second / 65536 % 3);
            GladSpider g = Due.on("field 1;person 0;person 20;spider 0 1;spider 0 2;spider 0 4");
            g.seed((int) x);
            T.due("not below of " + x, g.breezes(1, 1, hundredth, 0), 20);
            T.due("below of " + x, g.breezes(1, 1, hundredth + 1, 0), 20 - (1 << which));
            T.due("x as it was", g.count(13), x);
        }
        // 2147483647 leads to 1043980748, whose DRAW is 15929.
        GladSpider g = Due.on("field 1;person 0;person 20;spider 0 1");
        g.seed(2147483647);
        T.due("29 is not below 29", g.breezes(1, 1, 29, 0), 20);
        T.due("29 is below 30", g.breezes(1, 1, 30, 0), 19);
    }

    /** "x (0 to 2147483647; 0 at first)": "what it was; NONE, and nothing happens, below 0". */
    private static void xAtItsEdges() {
        GladSpider g = new GladSpider();
        T.due("0 at first", g.count(13), 0);
        T.due("was 0", g.seed(0), 0);
        T.due("was 0", g.seed(2147483647), 0);
        for (int x : new int[] {-1, -2, Integer.MIN_VALUE}) {
            T.due("below 0", g.seed(x), -1);
            T.due("x stays", g.count(13), 2147483647);
        }
        T.due("was the most", g.seed(1), 2147483647);
        T.due("was 1", g.seed(0), 1);
        T.due("0", g.count(13), 0);
        new Same(T, h -> {
            RefusalTest.tellAll(h);
            h.seed(7);
        }).stays("below 0", h -> h.seed(-1), -1);
    }

    /** "BREEZES m times (1 to 10)": each from now on, "all together". */
    private static void breezes1To10() {
        GladSpider g = Due.on("field 1;person 9;spider 0 2;work 1");
        for (int m = 1; m <= 10; m++) {
            T.due("pieces of " + m, g.breezes(m, 2, 0, 0), 7 * m);
            T.due("works of " + m, g.breezes(m, 2, 0, 1), m);
        }
        T.due("0 times", g.breezes(0, 2, 0, 0), -1);
        T.due("11 times", g.breezes(11, 2, 0, 0), -1);
        // The DRAWS of the next time go on from those of this one: 0, 21468, 9988, 22117 .. of x 0.
        GladSpider h = Due.on("field 1;person 0;person 9;spider 0 2");
        T.due("0 is below 1, 88 is not", h.breezes(2, 1, 1, 0), 16);
        T.due("0 and its which, 88 is below 89", h.breezes(2, 1, 89, 0), 14);
        T.due("0 and its which, 88 is not below 88", h.breezes(2, 1, 88, 0), 16);
    }

    /** "n DAYS (1 to 60) from now on". */
    private static void breezes1To60() {
        String field = "field 1;person 9;spider 0 2;work 2";
        T.due("59 days", on(field, "take 1 if day=59").breezes(10, 59, 0, 0), 90);
        T.due("60 days", on(field, "take 1 if day=59").breezes(10, 60, 0, 0), 70);
        T.due("60 days, works", on(field, "take 1 if day=59").breezes(10, 60, 0, 1), 0);
        T.due("60 days, works", on(field, "take 1 if day=58").breezes(10, 60, 0, 1), 10);
        T.due("59 days, works", on(field, "take 1 if day=58").breezes(10, 59, 0, 1), 0);
        T.due("1 day", on(field, "take 1 if day=0").breezes(1, 1, 0, 0), 7);
        T.due("1 day", on(field, "take 1 if day=1").breezes(1, 1, 0, 0), 9);
        GladSpider g = on(field, "take 1 if day=60");
        T.due("gone later", g.breezes(1, 60, 0, 0), 9);
        g.day();
        T.due("from now on", g.breezes(1, 60, 0, 0), 7);
        T.due("61 days", g.breezes(1, 61, 0, 0), -1);
        T.due("0 days", g.breezes(1, 0, 0, 0), -1);
    }

    /** "is it below p (0 to 100)": never by 0, always by 100. */
    private static void breezes0To100() {
        for (int x = 0; x < 200; x += 7) {
            GladSpider g = Due.on("field 1;person 0;person 9;spider 0 2");
            g.seed(x * 1234567 & Integer.MAX_VALUE);
            T.due("never", g.breezes(10, 1, 0, 0), 90);
            T.due("always", g.breezes(10, 1, 100, 0), 70);
        }
        GladSpider g = Due.on("field 1;person 0;person 9;spider 0 2");
        T.due("p 101", g.breezes(1, 1, 101, 0), -1);
        T.due("p -1", g.breezes(1, 1, -1, 0), -1);
        T.due("DRAW 0 is not below 0", g.breezes(1, 1, 0, 0), 9);
    }

    /** "that one, if it is ON a sleeve, is ON that of the PERSON of the next number (0 behind the last)". */
    private static void breezesOfPeopleInTurn() {
        for (int people = 1; people <= 5; people++) {
            for (int where = 0; where < people; where++) {
                int next = (where + 1) % people;
                StringBuilder b = new StringBuilder("field 1");
                for (int p = 0; p < people; p++) {
                    b.append(";person ").append(p == next ? 9 : 0);
                }
                GladSpider g = Due.on(b + ";spider " + where + " 4");
                T.due("from " + where + " of " + people, g.breezes(1, 1, 100, 0), 5);
            }
        }
        // It is blown ahead of the DAY: from 0 to 1, who has a PIECE; OUT and BACK it is not.
        GladSpider g = Due.on("field 1;person 0;person 1;person 5;spider 0 1");
        T.due("taken of 1 in the first", g.breezes(1, 1, 100, 0), 5);
        T.due("not blown OUT", g.breezes(1, 2, 100, 0), 5);
        T.due("BACK to 2", g.breezes(1, 3, 100, 0), 5);
        T.due("blown from 2 to 0, who has none", g.breezes(1, 4, 100, 0), 5);
        T.due("blown from 0 to 1, who has none", g.breezes(1, 5, 100, 0), 5);
        T.due("blown from 1 to 2", g.breezes(1, 6, 100, 0), 4);
        T.due("nothing stays", g.spider(0, 2), 0);
        // BACK it is not blown, but drawn: 0 and its which, then 88, not 68, when it is ON.
        GladSpider h = Due.on("field 1;person 9;person 0;spider 0 2");
        Due.days(h, 2);
        T.due("88 is not below 80", h.breezes(1, 2, 80, 0), 5);
        T.due("88 is below 89", h.breezes(1, 2, 89, 0), 7);
    }

    /** "and are there SPIDERS"; "NONE without these, or a FIELD". */
    private static void breezesWithout() {
        T.due("no spiders", Due.on("field 1;person 9").breezes(10, 60, 100, 0), 90);
        T.due("no spiders, works", Due.on("field 1;person 9;work 1").breezes(10, 60, 100, 1), 0);
        T.due("no people", Due.on("field 1").breezes(10, 60, 100, 0), 0);
        T.due("no field", new GladSpider().breezes(10, 60, 100, 0), -1);
        T.due("no field", new GladSpider().breezes(10, 60, 100, 1), -1);
        T.due("what 2", Due.on("field 1").breezes(1, 1, 0, 2), -1);
    }

    private static void countsOfNothing() {
        GladSpider g = new GladSpider();
        for (int what = 0; what <= 14; what++) {
            T.due("new, count " + what, g.count(what), what == 5 ? -1 : 0);
        }
        for (int what : new int[] {-1, 15, Integer.MIN_VALUE, Integer.MAX_VALUE}) {
            T.due("others", g.count(what), -1);
        }
    }

    private static void countsOfAll() {
        GladSpider g = new GladSpider();
        RefusalTest.tellAll(g);
        int[] want = {9, 5, 6, 5, 6, 3, 0, 178, 0, 0, 4, 10, 20, Integer.MAX_VALUE, 400};
        for (int what = 0; what <= 14; what++) {
            T.due("all told, count " + what, g.count(what), want[what]);
        }
        T.due("15", g.count(15), -1);
        for (int p = 0; p < 5; p++) {
            g.lie(p);
        }
        T.due("all but the third lie", g.count(10), 27);
        g.lie(2);
        T.due("all lie", g.count(10), 31);
        // 7: PIECES of all PEOPLE, not those on their way or in the hedge, which are 8.
        GladSpider h = Due.on("field 1;person 9;person 9;spider 0 4;spider 1 5;work 7;work 60");
        int[][] counts = {{18, 0, 0}, {9, 0, 0}, {9, 2, 1}, {9, 2, 1}};
        for (int[] one : counts) {
            T.due("pieces of all people", h.count(7), one[0]);
            T.due("in the hedge", h.count(8), one[1]);
            T.due("built", h.count(9), one[2]);
            h.day();
        }
    }

    /** "IMAGES 0 to 3": "NONE, and nothing happens, if it was never made, or without it". */
    private static void images0To3() {
        GladSpider g = Due.on("field 1;person 0");
        for (int k = 0; k < 4; k++) {
            T.due("never made", g.back(k), -1);
        }
        for (int k = 0; k < 4; k++) {
            for (int later = k; later < 4; later++) {
                T.due("not made yet", g.back(later), -1);
            }
            T.due("made", g.image(k), k);
            g.cheer(0, 1);
            g.day();
        }
        for (int k : new int[] {-1, 4, Integer.MIN_VALUE, Integer.MAX_VALUE}) {
            T.due("no such image", g.image(k), -1);
            T.due("no such image", g.back(k), -1);
        }
        T.due("nothing happened", g.count(6), 4);
        T.due("acts", g.count(12), 8);
        for (int k = 3; k >= 0; k--) {
            T.due("back", g.back(k), k);
            T.due("its pieces", g.person(0, 0), k);
        }
        for (int k = 0; k < 4; k++) {
            T.due("back again", g.back(k), k);
            g.cheer(0, 9);
            T.due("and again", g.back(k), k);
            T.due("its pieces", g.person(0, 0), k);
        }
        T.due("in place of the first", g.image(0), 3);
        T.due("another", g.back(1), 1);
        T.due("the new one", g.back(0), 3);
    }

    /** "all but the TAPE and the RULES, as it is (the RULE IN FORCE, too); gone back to, it is as it was". */
    private static void imagesKeepAll() {
        for (int days = 0; days < 10; days++) {
            GladSpider g = Due.on("field 2;person 20;person 9;person 0;person 4;person 1;spider 0 9;spider 1 4;spider 2 3;"
                    + "spider 3 2;spider 4 1;spider 4 7;work 5;work 1;work 30", "take 1", "take 0");
            g.force(0);
            g.seed(31);
            g.note(0, 0, 20);
            g.note(1, 1, 5);
            g.lie(3);
            Due.days(g, days);
            int[] before = Snapshot.of(g);
            int fits = g.ruled(0);
            int even = g.even(4);
            T.due("image", g.image(2), days);
            g.force(1);
            g.seed(32);
            g.note(-1, 0, 0);
            g.lie(0);
            g.cheer(1, 5);
            g.day();
            if (days % 2 == 0) {
                Due.field(g, "field 1;person 3");
            }
            T.due("back", g.back(2), days);
            int[] behind = Snapshot.of(g);
            before[12] = 0;
            for (int i = 0; i < before.length; i++) {
                T.due("as it was " + i, behind[i], before[i]);
            }
            T.due("the notes as they were", g.ruled(0), fits);
            T.due("what the text told is as it was", g.even(4), even);
        }
        // Without a FIELD, too.
        GladSpider g = new GladSpider();
        g.seed(5);
        T.due("of nothing", g.image(0), 0);
        Due.field(g, "field 1;person 3");
        g.day();
        T.due("back to nothing", g.back(0), 0);
        T.due("no day", g.day(), -1);
        T.due("no people", g.count(1), 0);
        T.due("x", g.count(13), 5);
        T.due("none to be undone", g.undo(), -1);
    }

    /** "(these stay": the TAPE and the RULES, and the other IMAGES. */
    private static void whatImagesDoNotKeep() {
        GladSpider g = Due.on("field 1;person 9;spider 0 1", "take 0");
        g.force(0);
        g.image(0);
        Due.rule(g, "take 1");
        g.force(1);
        g.image(1);
        Due.tape(g, "field 1;person 7");
        T.due("back", g.back(0), 0);
        T.due("rules stay", g.count(4), 2);
        T.due("in force as it was", g.count(5), 0);
        T.due("bytes stay", g.count(14), 16);
        T.due("the later rule can be forced", g.force(1), 0);
        T.due("the other image", g.back(1), 0);
        T.due("in force as it was", g.count(5), 1);
        T.due("the tape as it was", g.field(), 1);
        T.due("pieces", g.person(0, 0), 7);
        T.due("images stay", g.back(0), 0);
        T.due("pieces", g.person(0, 0), 9);
        T.due("the tape is empty", g.count(14), 0);
    }

    /** "nothing can be UNDONE then)". */
    private static void nothingIsUndoneThen() {
        GladSpider g = Due.on("field 1;person 9");
        g.cheer(0, 1);
        g.cheer(0, 1);
        g.image(0);
        T.due("by an image all can", g.count(12), 2);
        g.cheer(0, 1);
        T.due("back", g.back(0), 0);
        T.due("none can", g.count(12), 0);
        T.due("none can", g.undo(), -1);
        T.due("as in the image", g.person(0, 0), 11);
        g.cheer(0, 1);
        T.due("one can", g.count(12), 1);
        T.due("undone", g.undo(), 0);
        T.due("as in the image", g.person(0, 0), 11);
        T.due("no more", g.undo(), -1);
        for (int k : List.of(1, 2, 3, 4, -1)) {
            g.cheer(0, 1);
            T.due("refused", g.back(k), -1);
        }
        T.due("all can still", g.count(12), 5);
    }
}
