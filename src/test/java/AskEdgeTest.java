import java.util.function.ToIntFunction;

/** Promises 17 to 29 at their edges: what is asked of DAYS, PEOPLE and WORKS. The words in quotes are the document's. */
public final class AskEdgeTest {
    private static final Due T = new Due("AskEdgeTest");

    public static void main(String[] args) {
        ahead0To100();
        madeOfOneToFive();
        madeOf200();
        evenOf200();
        homeFromAfar();
        lowestIn1To100();
        lyingFor1To40();
        lyingOfSeveral();
        hadFor1To40();
        hadNumbers();
        hadUpTo200();
        brushedFor1To40();
        brushedOfSeveral();
        skipOfLoads();
        skipOfSeveral();
        owedSetOff();
        restsFor1To20();
        restsOfTheOthers();
        ringOf60();
        ringOfWhatIsAlike();
        penceOf0To9999();
        penceThatAreLeft();
        nothingChanges();
        T.finish();
    }

    /** One PERSON of nine PIECES, whose SPIDER takes two on that DAY alone. */
    private static GladSpider on(int day) {
        GladSpider g = Due.on("field 1;person 9;spider 0 2", "take 1 if day=" + day);
        g.force(0);
        return g;
    }

    /** "AHEAD n DAYS (0 to 100)". */
    private static void ahead0To100() {
        for (int what = 0; what <= 1; what++) {
            T.due("99 days", on(99).ahead(0, 99, what), 9);
            T.due("100 days", on(99).ahead(0, 100, what), 7);
            T.due("100 days, gone later", on(100).ahead(0, 100, what), 9);
            T.due("0 days", on(0).ahead(0, 0, what), 9);
            T.due("1 day", on(0).ahead(0, 1, what), 7);
        }
        T.due("hedge by 99", on(98).ahead(0, 99, 2), 0);
        T.due("hedge by 100", on(98).ahead(0, 100, 2), 2);
        GladSpider g = Due.on("field 1;person 9;spider 0 2;work 2", "take 1 if day=98");
        g.force(0);
        T.due("works by 99", g.ahead(0, 99, 3), 0);
        T.due("works by 100", g.ahead(0, 100, 3), 1);
        T.due("hedge by 100", g.ahead(0, 100, 2), 0);
        g.day();
        T.due("works by 99 from now", g.ahead(0, 99, 3), 1);
        T.due("works by 98 from now", g.ahead(0, 98, 3), 0);
        GladSpider h = Due.on("field 1;person 4;person 2;spider 1 2");
        h.give(0, 1, 0);
        h.cheer(1, 1);
        T.due("now", h.ahead(1, 0, 0), 4);
        T.due("own now", h.ahead(1, 0, 1), 3);
        T.due("pieces of another's", h.ahead(1, 1, 0), 2);
        T.due("own of these", h.ahead(1, 1, 1), 1);
        T.due("no people, hedge", Due.on("field 1").ahead(0, 100, 2), 0);
    }

    /** "k (1 to 5)", "k WORKS or more", "this one the first". */
    private static void madeOfOneToFive() {
        GladSpider g = Due.on("field 1;person 9;spider 0 9;work 1;work 1;work 1;work 1;work 1");
        for (int day = 0; day < 9; day++) {
            for (int k = 1; k <= 5; k++) {
                T.due("made " + k + " in " + day, g.made(k), Math.max(day, k));
            }
            T.due("made 0", g.made(0), -1);
            T.due("made 6", g.made(6), -1);
            g.day();
        }
        GladSpider h = Due.on("field 1;person 9;spider 0 9;work 1;work 1;work 1;work 1");
        T.due("four of four", h.made(4), 4);
        T.due("five of four", h.made(5), -2);
    }

    /** "of 200, behind which": the last one of these, and one later. */
    private static void madeOf200() {
        for (int now = 0; now < 3; now++) {
            for (int day = 197; day < 203; day++) {
                GladSpider g = Due.on("field 1;person 9;spider 0 2;work 2", "take 1 if day=" + day);
                g.force(0);
                Due.days(g, now);
                T.due("built in " + (day + 1) + " from " + now, g.made(1), day + 1 < now + 200 ? day + 1 : -2);
            }
        }
    }

    /** "the one behind this the first, of 200, at whose begin they have just as many PIECES as the text told". */
    private static void evenOf200() {
        for (int now = 0; now < 3; now++) {
            for (int day = 197; day < 203; day++) {
                GladSpider g = on(day);
                g.cheer(0, 2);
                Due.days(g, now);
                T.due("even at " + (day + 1) + " from " + now, g.even(0), day + 1 <= now + 200 ? day + 1 : -2);
            }
        }
        T.due("not now, tomorrow", Due.on("field 1;person 0").even(0), 1);
        T.due("now, no more tomorrow", on(0).even(0), -2);
        GladSpider g = Due.on("field 1;person 3;person 0;spider 0 2");
        g.cheer(0, 3);
        T.due("6, 4, 2, 0 is never 3", g.even(0), -2);
        g.cheer(0, 1);
        T.due("7, 5, 3", g.even(0), 4);
        GladSpider h = Due.on("field 1;person 0;spider 0 1");
        h.cheer(0, 2);
        T.due("none, as told", h.even(0), 4);
        GladSpider k = Due.on("field 1;person 2;person 5");
        k.give(1, 0, 1);
        k.give(0, 1, 0);
        T.due("as many, though another's", k.even(0), 1);
    }

    /** "this one the first, of 100, at whose begin it is ON a sleeve; on whose". */
    private static void homeFromAfar() {
        for (int far = 1; far <= 9; far++) {
            GladSpider g = Due.on("field " + far + ";person 3;person 9;spider 0 3;spider 1 1");
            T.due("at once", g.home(0, 0), 0);
            T.due("on whose", g.home(0, 1), 0);
            g.day();
            for (int day = 1; day <= 2 * far; day++) {
                T.due("home", g.home(0, 0), 2 * far + 1);
                T.due("on whose then", g.home(0, 1), 1);
                T.due("not home yet", g.spider(0, 1) == 0 ? 1 : 0, 0);
                g.day();
            }
            T.due("home now", g.home(0, 0), 2 * far + 1);
            T.due("ON", g.spider(0, 1), 0);
            T.due("on whose", g.home(0, 1), 1);
        }
    }

    /** "in n DAYS (1 to 100): the fewest PIECES they have behind any of these; the first DAY of it". */
    private static void lowestIn1To100() {
        T.due("behind 99", on(99).lowest(0, 99, 0), 9);
        T.due("its day", on(99).lowest(0, 99, 1), 0);
        T.due("behind 100", on(99).lowest(0, 100, 0), 7);
        T.due("its day", on(99).lowest(0, 100, 1), 99);
        T.due("gone later", on(100).lowest(0, 100, 0), 9);
        T.due("behind this one", on(0).lowest(0, 1, 0), 7);
        T.due("its day", on(0).lowest(0, 1, 1), 0);
        T.due("the first of many", on(0).lowest(0, 100, 1), 0);
        T.due("tomorrow's is not of one", on(1).lowest(0, 1, 0), 9);
        T.due("of two", on(1).lowest(0, 2, 1), 1);
        GladSpider g = on(4);
        Due.days(g, 4);
        T.due("DAYS are told by their numbers", g.lowest(0, 1, 1), 4);
        g.day();
        T.due("DAYS are told by their numbers", g.lowest(0, 100, 1), 5);
        // Fewer now than behind any of these: what is brought today is there behind it.
        GladSpider h = Due.on("field 1;person 0;person 5;spider 1 3", "take 0");
        h.day();
        h.lie(0);
        h.force(0);
        h.day();
        T.due("none now", h.person(0, 0), 0);
        T.due("three behind this", h.lowest(0, 1, 0), 3);
        T.due("three behind this", h.lowest(0, 100, 0), 3);
        T.due("its day", h.lowest(0, 100, 1), 2);
    }

    /** "LYING for n DAYS (1 to 40)". */
    private static void lyingFor1To40() {
        T.due("39 days", on(39).lying(39, 0), 0);
        T.due("39 days", on(39).lying(39, 1), 9);
        T.due("40 days", on(39).lying(40, 0), 1);
        T.due("40 days", on(39).lying(40, 1), 9);
        T.due("gone later", on(40).lying(40, 0), 0);
        T.due("1 day", on(0).lying(1, 0), 1);
        T.due("1 day", on(1).lying(1, 0), 0);
        GladSpider g = on(0);
        g.lie(0);
        T.due("who lies now, and had best", g.lying(1, 0), 1);
        GladSpider h = on(1);
        h.lie(0);
        T.due("who lies now, and need not", h.lying(1, 0), 0);
        T.due("pieces", h.lying(1, 1), 9);
        GladSpider k = Due.on("field 1;person 9;person 9;person 9;person 9;person 9;spider 0 1;spider 1 1;spider 2 1;spider 3 1;"
                + "spider 4 1");
        T.due("all five", k.lying(1, 0), 31);
        T.due("all five", k.lying(1, 1), 45);
        GladSpider m = Due.on("field 1;person 9;person 9;person 9;person 9;person 9;spider 4 1");
        T.due("the last", m.lying(1, 0), 16);
    }

    /** "of several the one of fewest, then the least as bits". */
    private static void lyingOfSeveral() {
        String three = "field 1;person 5;person 5;person 5;spider 2 2";
        // On the third one's sleeve it goes unless two LIE: the third one alone, or the first two.
        GladSpider g = Due.on(three, "take 1 if lying<2");
        g.force(0);
        T.due("one of 4 ahead of two of 3", g.lying(1, 0), 4);
        T.due("pieces", g.lying(1, 1), 15);
        // On each sleeve they go unless two LIE: any two.
        GladSpider h = Due.on("field 1;person 5;person 5;person 5;spider 0 1;spider 1 1;spider 2 1", "take 1 if lying<2");
        h.force(0);
        T.due("two of 3, 5 and 6", h.lying(1, 0), 3);
        T.due("pieces", h.lying(1, 1), 15);
        // It is brought to whoever LIES: one of 1, 2 and 4.
        GladSpider k = Due.on("field 1;person 0;person 0;person 5;spider 2 5");
        k.day();
        T.due("anyone", k.lying(2, 0), 1);
        T.due("pieces", k.lying(2, 1), 5);
        T.due("too soon", k.lying(1, 0), 0);
        T.due("too soon", k.lying(1, 1), 0);
    }

    /** "HAD of a PERSON for n DAYS (1 to 40)". */
    private static void hadFor1To40() {
        T.due("39 days", on(39).had(0, 39, 60, 1), 60);
        T.due("40 days", on(39).had(0, 40, 60, 1), -2);
        T.due("40 days", on(39).had(0, 40, 58, 1), 60);
        T.due("40 days", on(39).had(0, 40, 0, 0), 3);
        T.due("gone later", on(40).had(0, 40, 60, 1), 60);
        T.due("1 day", on(0).had(0, 1, 58, 1), 60);
        T.due("1 day", on(1).had(0, 1, 58, 1), 58);
    }

    /** "numbers 0 to 60": "how many; the least". */
    private static void hadNumbers() {
        GladSpider g = Due.on("field 1;person 33;person 5");
        for (int much : new int[] {0, 1, 33, 59, 60}) {
            T.due("how many for " + much, g.had(0, 1, much, 0), 1);
            T.due("the least for " + much, g.had(0, 1, much, 1), much);
        }
        for (int much : new int[] {61, 62, 99, 200}) {
            T.due("how many for " + much, g.had(0, 1, much, 0), 0);
            T.due("none for " + much, g.had(0, 1, much, 1), -2);
        }
        T.due("201", g.had(0, 1, 201, 0), -1);
        // All SPIDERS take what they can: 0 to 54 lead to 0.
        GladSpider h = Due.on("field 9;person 1;spider 0 9;spider 0 9;spider 0 9;spider 0 9;spider 0 9;spider 0 9");
        T.due("how many for 0", h.had(0, 1, 0, 0), 55);
        T.due("the least for 0", h.had(0, 1, 0, 1), 0);
        T.due("how many for 6", h.had(0, 1, 6, 0), 1);
        T.due("the least for 6", h.had(0, 1, 6, 1), 60);
        T.due("none for 7", h.had(0, 1, 7, 1), -2);
        // By a RULE all of 61 numbers, and all but the least.
        GladSpider k = Due.on("field 1;person 1;spider 0 9", "take 1 if glad<9");
        k.force(0);
        T.due("how many for 0", k.had(0, 1, 0, 0), 9);
        T.due("none for 8", k.had(0, 1, 8, 1), -2);
        T.due("the least for 9", k.had(0, 1, 9, 1), 9);
    }

    /** "a number (0 to 200)", "in place of what they have of these, all else as it is". */
    private static void hadUpTo200() {
        GladSpider g = Due.on("field 1;person 60;person 60;person 60;person 60");
        for (int one = 1; one <= 3; one++) {
            for (int n = 0; n < (one < 3 ? 60 : 20); n++) {
                g.give(one, 0, one);
            }
        }
        T.due("pieces", g.person(0, 0), 200);
        T.due("200", g.had(0, 1, 200, 1), 60);
        T.due("140", g.had(0, 1, 140, 1), 0);
        T.due("139", g.had(0, 1, 139, 0), 0);
        g.give(3, 0, 3);
        T.due("200 of one more", g.had(0, 1, 200, 1), 59);
        T.due("201 is refused", g.had(0, 1, 201, 1), -1);
        g.cheer(0, 9);
        T.due("whatever they have now", g.had(0, 1, 200, 1), 59);
        T.due("the other one's numbers", g.had(3, 1, 20, 1), 20);
    }

    /** "BRUSHED of a SPIDER ON a sleeve for n DAYS (1 to 40)". */
    private static void brushedFor1To40() {
        GladSpider g = Due.on("field 1;person 0;person 9;spider 0 2;work 2", "take 1 if day=38", "take 1 if day=39");
        g.force(0);
        T.due("39 days, where it is", g.brushed(0, 39, 0), 0);
        T.due("39 days, works", g.brushed(0, 39, 1), 0);
        T.due("40 days", g.brushed(0, 40, 0), 1);
        T.due("40 days, works", g.brushed(0, 40, 1), 1);
        T.due("40 days, pieces", g.brushed(0, 40, 2), 0);
        g.force(1);
        T.due("gone later", g.brushed(0, 40, 0), 0);
        T.due("gone later, pieces", g.brushed(0, 40, 2), 0);
        GladSpider h = Due.on("field 1;person 0;person 9;spider 0 2;spider 1 3");
        h.day();
        T.due("1 day, the other's pieces", h.brushed(0, 1, 2), 3);
        T.due("1 day", h.brushed(0, 1, 0), 0);
        T.due("1 day, works", h.brushed(0, 1, 1), 0);
    }

    /** "of several where it is, then the least". */
    private static void brushedOfSeveral() {
        String five = "field 1;person 0;person 9;person 9;person 9;person 9;spider ";
        for (int where = 0; where < 5; where++) {
            GladSpider g = Due.on(five + where + " 2");
            T.due("from " + where, g.brushed(0, 2, 0), where == 0 ? 1 : where);
            T.due("pieces from " + where, g.brushed(0, 2, 2), 2);
            T.due("nothing yet from " + where, g.brushed(0, 1, 0), where);
        }
        GladSpider g = Due.on("field 1;person 1;person 2;person 3;person 4;person 5;spider 0 9");
        T.due("the last", g.brushed(0, 2, 0), 4);
        T.due("pieces", g.brushed(0, 2, 2), 5);
        // The other SPIDER is on that sleeve, too: two of one, or one each.
        GladSpider h = Due.on("field 1;person 2;person 2;spider 0 2;spider 0 2");
        T.due("away from the first", h.brushed(1, 2, 0), 1);
        T.due("pieces", h.brushed(1, 2, 2), 4);
        // Two WORKS and nothing left go ahead of one and five.
        GladSpider k = Due.on("field 1;person 7;person 8;spider 0 9;work 2;work 6");
        T.due("most works", k.brushed(0, 3, 0), 1);
        T.due("works", k.brushed(0, 3, 1), 2);
        T.due("pieces", k.brushed(0, 3, 2), 0);
        T.due("a day earlier, most pieces", k.brushed(0, 2, 0), 1);
        T.due("works", k.brushed(0, 2, 1), 1);
        T.due("pieces", k.brushed(0, 2, 2), 6);
    }

    /** "a load (0 to 300)", "that NEED as much together, or less". */
    private static void skipOfLoads() {
        GladSpider g = Due.on("field 1;work 60;work 60;work 60;work 60;work 60");
        for (int load = 0; load <= 300; load++) {
            T.due("skip " + load, g.skip(load, 0), load / 60 * 60);
            T.due("set " + load, g.skip(load, 1), (1 << load / 60) - 1);
        }
        GladSpider h = Due.on("field 1;work 1;work 2;work 4;work 8;work 16");
        for (int load = 0; load <= 32; load++) {
            T.due("skip " + load, h.skip(load, 0), Math.min(31, load));
            T.due("set " + load, h.skip(load, 1), Math.min(31, load));
        }
    }

    /** "of all sets of WORKS not BUILT, none too", "of several the least as bits". */
    private static void skipOfSeveral() {
        GladSpider g = Due.on("field 1;person 9;spider 0 9;work 2;work 2;work 2;work 1;work 2");
        int[] pairs = {3, 6, 20, 20, 16, 0};
        int[] all = {9, 7, 5, 3, 2, 0};
        for (int built = 0; built <= 5; built++) {
            T.due("built", g.count(9), built);
            T.due("all behind " + built, g.skip(300, 0), all[built]);
            T.due("all as bits", g.skip(300, 1), 31 >> built << built);
            T.due("four behind " + built, g.skip(4, 0), Math.min(4, all[built]));
            T.due("as bits", g.skip(4, 1), built == 3 ? 24 : pairs[built]);
            T.due("nothing", g.skip(0, 1), 0);
            Due.days(g, built == 0 ? 2 : 1);
        }
        GladSpider h = Due.on("field 1;work 3;work 4;work 5;work 1;work 60");
        T.due("5 of 3, 4, 5, 1: 4 and 1 as 10, 5 as 4", h.skip(5, 1), 4);
        T.due("4: 4 as 2, 3 and 1 as 9", h.skip(4, 1), 2);
        T.due("8: 3 and 5 as 5, 3, 4 and 1 as 11", h.skip(8, 1), 5);
        T.due("2: 1 alone", h.skip(2, 1), 8);
    }

    /** "how many PIECES are left to be given in all", "of several the least". */
    private static void owedSetOff() {
        GladSpider g = Due.on("field 1;person 9;person 9;person 9;person 9;person 9;spider 0 3;spider 1 3");
        for (int p = 0; p < 5; p++) {
            g.give(p, (p + 1) % 5, p);
        }
        T.due("round in a ring", g.owed(0), 5);
        T.due("each as much as they give", g.owed(1), 0);
        g.give(4, 1, 4);
        T.due("one more", g.owed(0), 6);
        T.due("the last", g.owed(1), 4);
        g.give(2, 4, 2);
        g.give(2, 4, 2);
        T.due("two more", g.owed(0), 8);
        T.due("2 has 2 due, 4 is even", g.owed(1), 2);
        g.give(4, 2, 4);
        T.due("set off by one", g.owed(0), 7);
        T.due("2 and 4 have 1 due, 2 is less", g.owed(1), 2);
        g.give(4, 2, 4);
        T.due("set off wholly", g.owed(0), 6);
        T.due("4 again", g.owed(1), 4);
        // What is in the hedge or on its way nobody has.
        GladSpider h = Due.on("field 1;person 9;person 9;spider 0 3;spider 1 3");
        h.give(0, 1, 0);
        Due.days(h, 1);
        T.due("on its way", h.owed(0), 1);
        Due.days(h, 1);
        T.due("in the hedge", h.owed(0), 1);
        T.due("who", h.owed(1), 0);
        T.due("one alone", Due.on("field 1;person 9").owed(0), 0);
        T.due("one alone", Due.on("field 1;person 9").owed(1), 0);
        GladSpider k = Due.on("field 1;person 9;person 9");
        k.give(1, 0, 1);
        T.due("the other one", k.owed(1), 1);
        k.give(0, 1, 0);
        T.due("set off", k.owed(0), 0);
        T.due("the least of two", k.owed(1), 0);
    }

    /** "RESTS of two PEOPLE for n DAYS (1 to 20)". */
    private static void restsFor1To20() {
        GladSpider g = Due.on("field 1;person 9;person 9;spider 0 2;spider 1 2", "take 1 if day=19", "take 1 if day=20",
                "take 1 if day=0");
        g.force(0);
        int[][] want = {{4, 0, 0}, {1, 1, 1}};
        for (int what = 0; what <= 2; what++) {
            T.due("19 days", g.rests(0, 1, 19, what), want[0][what]);
            T.due("20 days", g.rests(0, 1, 20, what), want[1][what]);
        }
        g.force(1);
        T.due("gone later", g.rests(0, 1, 20, 0), 4);
        g.force(2);
        T.due("1 day", g.rests(0, 1, 1, 0), 1);
        T.due("0 days", g.rests(0, 1, 0, 0), -1);
        T.due("21 days", g.rests(0, 1, 21, 0), -1);
    }

    /** "twos of ways of which neither would have more by the other way (the other one as told)": "0 does not, 1 LIES". */
    private static void restsOfTheOthers() {
        // 0 has nothing to lose, 1 has, and so has 2, who is not of the two.
        GladSpider g = Due.on("field 1;person 9;person 9;person 9;spider 1 2;spider 2 2");
        int[][] want = {{2, 0, 1}, {2, 1, 0}, {1, 1, 1}};
        for (int what = 0; what <= 2; what++) {
            T.due("0 and 1", g.rests(0, 1, 1, what), want[0][what]);
            T.due("1 and 0", g.rests(1, 0, 1, what), want[1][what]);
            T.due("1 and 2", g.rests(1, 2, 1, what), want[2][what]);
        }
        g.lie(1);
        T.due("who lies now", g.rests(0, 1, 1, 0), 2);
        T.due("who lies now, told first", g.rests(1, 0, 1, 0), 2);
        T.due("who lies now, told first", g.rests(1, 0, 1, 1), 1);
        // 0 is not of the two, LIES and goes on to: to 0 all is brought, whatever 1 and 2 do.
        GladSpider i = Due.on("field 1;person 0;person 0;person 0;person 9;spider 3 3");
        T.due("to 1, if 1 lies", i.rests(1, 2, 3, 0), 2);
        T.due("to 1, if 1 lies", i.rests(1, 2, 3, 1), 1);
        i.lie(0);
        T.due("to 0", i.rests(1, 2, 3, 0), 4);
        // 1 LIES now and for good: to 1 it is brought unless 0 LIES, so 0 had best.
        GladSpider h = Due.on("field 1;person 0;person 0;person 9;spider 2 3");
        h.lie(1);
        T.due("0 had best, 2 too", h.rests(0, 2, 3, 0), 2);
        T.due("0 does not", h.rests(0, 2, 3, 1), 0);
        T.due("while 2 lies", h.rests(0, 2, 3, 2), 1);
        // Whether 2 LIES hangs on 0: by the RULE it goes unless one LIES.
        GladSpider k = Due.on("field 1;person 9;person 0;spider 0 1", "take 1 if lying=0");
        k.force(0);
        T.due("three of four", k.rests(0, 1, 1, 0), 3);
        T.due("the first: 0 does not", k.rests(0, 1, 1, 1), 0);
        T.due("the first: 1 lies", k.rests(0, 1, 1, 2), 1);
        T.due("told the other way about", k.rests(1, 0, 1, 1), 0);
        T.due("told the other way about", k.rests(1, 0, 1, 2), 1);
    }

    private static GladSpider afar(int day) {
        GladSpider g = Due.on("field 9;person 0;person 1;person 1;spider 0 1;spider 1 1;spider 2 1",
                "take 1 if spider=2 and day=0 or spider=1 and day=" + day);
        g.force(0);
        g.lie(0);
        return g;
    }

    /**
     * "the first DAY, this one the first, of 60", "60 DAYS from now at most". A PIECE that is taken
     * is brought 18 DAYS later; where neither comes in between, all is as it was 19 DAYS before.
     */
    private static void ringOf60() {
        T.due("41 and 19", afar(22).ring(0), 41);
        T.due("41 and 19", afar(22).ring(1), 19);
        T.due("42 and 19 is too late", afar(23).ring(0), -2);
        T.due("42 and 19 is too late", afar(23).ring(1), -2);
        GladSpider g = afar(23);
        g.day();
        T.due("not from tomorrow on", g.ring(0), 42);
        T.due("not from tomorrow on", g.ring(1), 19);
        for (int last = 53; last < 60; last++) {
            // It goes, and is OUT, BACK and ON again: three DAYS behind the last one it stays for good.
            GladSpider h = Due.on("field 1;person 60;spider 0 1", "take 1 if day<=" + last);
            h.force(0);
            int home = last / 3 * 3 + 3;
            T.due("gone till " + last, h.ring(0), home < 60 ? home : -2);
            T.due("one later", h.ring(1), home < 60 ? 1 : -2);
        }
    }

    /** "all PEOPLE have as many PIECES, and all SPIDERS are where they are": whatever is in the hedge, or BUILT. */
    private static void ringOfWhatIsAlike() {
        GladSpider g = Due.on("field 1;person 9;spider 0 9;work 1;work 1;work 1;work 1;work 1");
        Due.days(g, 3);
        T.due("works are built on", g.made(4), 4);
        T.due("all is alike", g.ring(0), 3);
        T.due("one later", g.ring(1), 1);
        // Days left tell DAYS apart, and OUT and BACK.
        for (int far = 1; far <= 9; far++) {
            GladSpider h = Due.on("field " + far + ";person 3;spider 0 3");
            T.due("home for good", h.ring(0), 2 * far + 1);
            T.due("one later", h.ring(1), 1);
            h.lie(0);
            T.due("round and round", h.ring(0), 0);
            T.due("there and back", h.ring(1), 2 * far + 1);
        }
        // PIECES of each are told apart, not of all together.
        GladSpider k = Due.on("field 1;person 0;person 3;person 3;spider 1 3", "take 0");
        k.day();
        k.force(0);
        k.lie(0);
        T.due("brought to another one", k.ring(0), 3);
        T.due("round and round", k.ring(1), 3);
    }

    /** "PENCE (0 to 9999) among PEOPLE by PIECES: each the part downwards". */
    private static void penceOf0To9999() {
        GladSpider g = Due.on("field 1;person 7;person 0;person 13;person 1;person 60");
        for (int much : new int[] {0, 1, 2, 3, 80, 81, 82, 161, 162, 9998, 9999}) {
            int all = 0;
            for (int p = 0; p < 5; p++) {
                int part = much * g.person(p, 0) / 81;
                int got = g.pence(much, p);
                T.due("the part or one more of " + much, got == part || got == part + 1 ? 1 : 0, 1);
                all += got;
            }
            T.due("all of " + much, all, much);
            T.due("nothing by nothing", g.pence(much, 1), 0);
        }
        T.due("10000", g.pence(10000, 0), -1);
        T.due("-1", g.pence(-1, 0), -1);
        GladSpider h = Due.on("field 1;person 5");
        T.due("all of one", h.pence(9999, 0), 9999);
        T.due("none, if there are none", Due.on("field 1;person 0").pence(9999, 0), 0);
        // PIECES that they have count, whose ever they are; in the hedge none does.
        GladSpider k = Due.on("field 1;person 4;person 4;spider 1 3");
        k.give(0, 1, 0);
        Due.days(k, 2);
        T.due("3 of 5", k.pence(10, 0), 6);
        T.due("2 of 5", k.pence(10, 1), 4);
    }

    private static void isParted(GladSpider g, int much, int... parts) {
        for (int p = 0; p < parts.length; p++) {
            T.due(much + " pence, part of " + p, g.pence(much, p), parts[p]);
        }
    }

    /** "what is left, one each, to those whose part lost most by that, of several the least first". */
    private static void penceThatAreLeft() {
        GladSpider g = Due.on("field 1;person 6;person 3;person 1");
        isParted(g, 0, 0, 0, 0);
        isParted(g, 1, 1, 0, 0);
        isParted(g, 2, 1, 1, 0);
        isParted(g, 5, 3, 2, 0);
        isParted(g, 7, 4, 2, 1);
        isParted(g, 8, 5, 2, 1);
        isParted(g, 9, 5, 3, 1);
        isParted(g, 10, 6, 3, 1);
        isParted(g, 9999, 5999, 3000, 1000);
        GladSpider h = Due.on("field 1;person 2;person 2;person 2;person 2;person 2");
        isParted(h, 1, 1, 0, 0, 0, 0);
        isParted(h, 4, 1, 1, 1, 1, 0);
        isParted(h, 5, 1, 1, 1, 1, 1);
        isParted(h, 9999, 2000, 2000, 2000, 2000, 1999);
        GladSpider k = Due.on("field 1;person 1;person 0;person 3");
        isParted(k, 2, 1, 0, 1);
        isParted(k, 3, 1, 0, 2);
        isParted(Due.on("field 1;person 0;person 0"), 7, 0, 0);
    }

    private static void stays(Same same, String name, ToIntFunction<GladSpider> asks) {
        same.staysAsked(name, asks, -1);
    }

    /** "By what is asked nothing changes": also when it was asked for the longest there is, on DAYS on which much goes on. */
    private static void nothingChanges() {
        for (int days = 0; days < 8; days++) {
            int n = days;
            Same same = new Same(T, g -> {
                Due.field(g, "field 2;person 20;person 9;person 0;spider 0 9;spider 1 4;spider 2 3;work 5;work 1;work 30");
                Due.rule(g, "take glad - with");
                g.force(0);
                g.seed(77);
                g.note(2, 1, 5);
                g.image(1);
                g.lie(2);
                Due.days(g, n);
                g.feed(1, 2, 3, 4, 5);
            });
            stays(same, "ahead", g -> g.ahead(0, 100, 0));
            stays(same, "made", g -> g.made(3));
            stays(same, "even", g -> g.even(1));
            stays(same, "home", g -> g.home(2, 0));
            stays(same, "lowest", g -> g.lowest(0, 100, 0));
            stays(same, "lying", g -> g.lying(40, 0));
            stays(same, "had", g -> g.had(0, 40, 3, 0));
            stays(same, "skip", g -> g.skip(300, 0));
            stays(same, "owed", g -> g.owed(1));
            stays(same, "rests", g -> g.rests(0, 2, 20, 0));
            stays(same, "ring", g -> g.ring(0));
            stays(same, "pence", g -> g.pence(9999, 0));
            stays(same, "ruled", g -> g.ruled(0));
            stays(same, "look", g -> g.look(60, 0));
            stays(same, "breezes", g -> g.breezes(10, 60, 100, 0));
            if (days == 0) {
                stays(same, "brushed", g -> g.brushed(0, 40, 0));
            }
        }
    }
}
