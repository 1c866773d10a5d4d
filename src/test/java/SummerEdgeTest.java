import java.util.List;
import java.util.function.Consumer;

/** Promises 7 to 16 at their edges: DAYS, the other ACTS, and what is UNDONE. The words in quotes are the document's. */
public final class SummerEdgeTest {
    private static final Due T = new Due("SummerEdgeTest");

    public static void main(String[] args) {
        asManyPeopleAsTold();
        asManyAsItCarries();
        oneOfWhoseThereAreMost();
        ofSeveralTheLeastPersons();
        takenFromTheHedge();
        takenForAWork();
        stayOrGo();
        sumsGoRoundIn64Bits();
        wordsAtTheirMost();
        eachByHowAllIsThen();
        theLeastWhoLies();
        theOneWithMostPieces();
        aWayThatIsBegun();
        withNobodyOnItsWay();
        lastDayByHand();
        worksOnTime();
        allWorks();
        whatCameIntoTheHedge();
        lieOrNoMore();
        cheerUpTo99();
        giveTheLast();
        brushOnSleevesAlone();
        eachActIsUndone();
        theLast20();
        whatIsNoAct();
        T.finish();
    }

    private static void isSpider(GladSpider g, int spider, int place, int who, int left, int has) {
        int[] want = {place, who, left, has};
        for (int what = 1; what <= 4; what++) {
            T.due("spider " + spider + " what " + what, g.spider(spider, what), want[what - 1]);
        }
    }

    private static void give(GladSpider g, int one, int other, int many) {
        for (int n = 0; n < many; n++) {
            g.give(one, other, one);
        }
    }

    /** "how many of them are of the PERSON less 2 (0, if there is none such). NONE without these." */
    private static void asManyPeopleAsTold() {
        for (int people = 0; people <= 5; people++) {
            GladSpider g = Due.on("field 1" + ";person 8".repeat(people) + (people > 0 ? ";spider 0 3" : ""));
            give(g, 0, people - 1, 2);
            for (int p = 0; p <= 5; p++) {
                int gave = people > 1 && p == 0 ? 6 : 8;
                int got = people > 1 && p == people - 1 ? 2 : 0;
                T.due("pieces of " + p + " of " + people, g.person(p, 0), p < people ? gave + got : -1);
                T.due("in the hedge of " + p + " of " + people, g.inHedge(p), p < people ? 0 : -1);
                for (int q = 0; q < 5; q++) {
                    int want = p == q ? gave : q == 0 ? got : 0;
                    T.due("of " + q + " at " + p + " of " + people, g.person(p, 2 + q), p < people ? want : -1);
                }
                T.due("what 7", g.person(p, 7), -1);
            }
            T.due("spider", g.spider(0, 0), people > 0 ? 3 : -2);
            T.due("spider 1", g.spider(1, 0), -2);
            T.due("work", g.work(0), -1);
        }
    }

    /** "till it is n, or there are no more". */
    private static void asManyAsItCarries() {
        for (int carries = 1; carries <= 9; carries++) {
            for (int has = 1; has <= 10; has++) {
                GladSpider g = Due.on("field 3;person " + has + ";spider 0 " + carries);
                g.day();
                isSpider(g, 0, 1, -1, 3, Math.min(has, carries));
                T.due("left", g.person(0, 0), Math.max(0, has - carries));
            }
        }
        GladSpider g = Due.on("field 3;person 0;spider 0 1");
        g.day();
        isSpider(g, 0, 0, 0, 0, 0);
    }

    /** Of one PIECE, five and three: of 1 till they are three, 1 and 2 in turns till all are one, then each by number. */
    private static void oneOfWhoseThereAreMost() {
        int[] order = {1, 1, 1, 2, 1, 2, 0, 1, 2};
        int[] left = {1, 5, 3};
        for (int carries = 1; carries <= 9; carries++) {
            GladSpider g = Due.on("field 1;person 1;person 5;person 3;spider 0 " + carries);
            give(g, 1, 0, 5);
            give(g, 2, 0, 3);
            g.day();
            left[order[carries - 1]]--;
            for (int p = 0; p < 3; p++) {
                T.due("of " + p + " left by " + carries, g.person(0, 2 + p), left[p]);
            }
            g.day();
            int[] had = {1, 5, 3};
            for (int p = 0; p < 3; p++) {
                T.due("of " + p + " brought by " + carries, g.inHedge(p), had[p] - left[p]);
            }
        }
    }

    private static void ofSeveralTheLeastPersons() {
        for (int carries = 1; carries <= 9; carries++) {
            GladSpider g = Due.on("field 1;person 3;person 3;person 3;person 3;person 3;spider 4 " + carries);
            for (int p = 0; p < 4; p++) {
                give(g, p, 4, 3);
            }
            g.day();
            for (int p = 0; p < 5; p++) {
                T.due("of " + p + " left by " + carries, g.person(4, 2 + p), 3 - (carries + 4 - p) / 5);
            }
        }
    }

    /** "for whom it takes as many PIECES from the hedge as it CARRIES". */
    private static void takenFromTheHedge() {
        int[] order = {1, 1, 0, 1, 0, 1, 0, 1, 0};
        int[] there = {4, 6};
        for (int carries = 1; carries <= 9; carries++) {
            GladSpider g = Due.on("field 1;person 4;person 6;person 0;spider 0 4;spider 1 6;spider 2 " + carries);
            Due.days(g, 2);
            isSpider(g, 2, 0, 2, 0, 0);
            g.lie(2);
            g.day();
            isSpider(g, 2, 1, -1, 1, 0);
            T.due("nothing came", g.day(), 0);
            isSpider(g, 2, 2, 2, 1, carries);
            there[order[carries - 1]]--;
            T.due("of 0 by " + carries, g.inHedge(0), there[0]);
            T.due("of 1 by " + carries, g.inHedge(1), there[1]);
            g.day();
            isSpider(g, 2, 0, 2, 0, 0);
            T.due("of 0", g.person(2, 2), 4 - there[0]);
            T.due("of 1", g.person(2, 3), 6 - there[1]);
            T.due("pieces", g.person(2, 0), carries);
        }
        GladSpider g = Due.on("field 1;person 0;spider 0 9");
        g.lie(0);
        Due.days(g, 2);
        isSpider(g, 0, 2, 0, 1, 0);
    }

    /** "these are taken, and are no more". */
    private static void takenForAWork() {
        int[] order = {1, 1, 0, 1, 0, 1, 0, 1, 0, 1};
        int[] there = {4, 6};
        for (int needs = 1; needs <= 10; needs++) {
            GladSpider g = Due.on("field 1;person 4;person 6;spider 0 4;spider 1 6;work " + needs);
            Due.days(g, 2);
            there[order[needs - 1]]--;
            T.due("built", g.count(9), 1);
            T.due("of 0 by " + needs, g.inHedge(0), there[0]);
            T.due("of 1 by " + needs, g.inHedge(1), there[1]);
            T.due("in all", g.count(7) + g.count(8), 10 - needs);
        }
        GladSpider g = Due.on("field 1;person 4;person 6;spider 0 4;spider 1 6;work 11");
        Due.days(g, 2);
        T.due("one too few", g.count(9), 0);
        T.due("all there still", g.count(8), 10);
    }

    private static void goes(String field, String rule, boolean want) {
        GladSpider g = Due.on(field, rule);
        T.due("told " + rule, g.count(4), 1);
        g.force(0);
        g.day();
        T.due("goes by " + rule, g.spider(0, 1), want ? 1 : 0);
        T.due("has by " + rule, g.spider(0, 4), want ? 1 : 0);
    }

    /** "if the SUM of the RULE IN FORCE's first CLAUSE without a TEST, or whose TEST holds (0 without), is above 0". */
    private static void stayOrGo() {
        String one = "field 1;person 1;spider 0 1";
        goes(one, "take 1", true);
        goes(one, "take 0", false);
        goes(one, "take 0-1", false);
        goes(one, "take 99999", true);
        goes(one, "take 1-1", false);
        goes(one, "take 1 if 1=2", false);
        goes(one, "take 1 if 1=1", true);
        goes(one, "take 0 if 1=1;take 1", false);
        goes(one, "take 0 if 1=2;take 1", true);
        goes(one, "take 1 if 1=2;take 0;take 1", false);
        goes(one, "take 1 if 1=1;take 0", true);
        goes(one, "take 0-1 if 1=1;take 1 if 1=1", false);
        goes(one, "take 1 if 1=2;take 1 if 1=2", false);
        goes(one, "take glad", true);
        goes(one, "take glad-1", false);
        goes("field 1;person 0;spider 0 1", "take 1", false);
        GladSpider g = Due.on("field 1;person 0;person 0;spider 0 1;spider 1 1", "take 0");
        g.lie(0);
        g.day();
        isSpider(g, 0, 1, -1, 1, 0);
        isSpider(g, 1, 0, 1, 0, 0);
        // With a RULE that was told but is not IN FORCE it does.
        GladSpider h = Due.on(one, "take 0");
        h.day();
        isSpider(h, 0, 1, -1, 1, 1);
        GladSpider k = Due.on(one, "take 0");
        k.force(0);
        k.force(-1);
        k.day();
        isSpider(k, 0, 1, -1, 1, 1);
    }

    /** "/ is towards 0, % its rest, both 0 by 0; all goes round in 64 bits." 32768 is 2 ^ 15. */
    private static void sumsGoRoundIn64Bits() {
        String one = "field 1;person 1;spider 0 1";
        String half = "32768*32768*32768*32768*4";
        goes(one, "take " + half, true);
        goes(one, "take " + half + "+" + half + "-1", true);
        goes(one, "take " + half + "+" + half, false);
        goes(one, "take " + half + "*2", false);
        goes(one, "take " + half + "*2-1", true);
        goes(one, "take " + half + "*4", false);
        goes(one, "take " + half + "*4+1", true);
        goes(one, "take 0-" + half + "-" + half, false);
        goes(one, "take 0-" + half + "-" + half + "-1", true);
        goes(one, "take 1 if " + half + "*2<0 and " + half + "*2-1>0", true);
        goes(one, "take 1 if " + half + "*2=0-" + half + "*2", true);
        // What does not go round in 32 bits.
        goes(one, "take 1 if 99999*99999>99999*21475", true);
        goes(one, "take 65536*65536", true);
        // 2 ^ 62 * 3 goes round to -2 ^ 62, which is -4611686018427387904.
        goes(one, "take 1 if " + half + "*3<0 and " + half + "*3%10=0-4 and " + half + "*3/10*10%100=0-0", true);
        goes(one, "take 1 if " + half + "*3/99999/99999/99999/9999=0", true);
        goes(one, "take 1 if " + half + "*3%4=0", true);
        for (String zero : List.of("7/0", "7%0", "0/0", "0%0", "7/0%0", "7%0/7", half + "*2/0", half + "*2%0", "7/need", "7%with")) {
            goes(one, "take 1 if " + zero + "=0", true);
        }
        goes(one, "take 1 if 7/7=1 and 6/7=0 and 8/7=1 and 7%7=0 and 6%7=6 and 8%7=1 and 7/1=7 and 7%1=0", true);
    }

    /** Each WORD where there is as much as there can be, and OWN where there is none. */
    private static void wordsAtTheirMost() {
        String field = "field 1;person 9;person 9;person 9;person 9;person 60;spider 4 1;spider 4 1;spider 4 1;spider 4 1;"
                + "spider 4 1;spider 4 9;work 60";
        String[] tests = {"spider=5 and with=5", "spider=5 and person=4 and carries=9", "spider=5 and glad=69",
            "spider=5 and own=60", "spider=5 and lying=4", "spider=5 and need=60 and built=0 and hedge=0 and day=0"};
        for (String test : tests) {
            GladSpider g = Due.on(field, "take 1 if " + test);
            g.force(0);
            give(g, 0, 4, 9);
            for (int p = 0; p < 4; p++) {
                g.lie(p);
            }
            g.day();
            for (int s = 0; s < 6; s++) {
                T.due(test + " of " + s, g.spider(s, 1), s == 5 ? 1 : 0);
            }
        }
        // Nothing of their OWN: they gave it all, and have of another one's.
        GladSpider g = Due.on("field 1;person 2;person 1;spider 1 1", "take 1 if own=0 and glad=2");
        give(g, 0, 1, 2);
        give(g, 1, 0, 1);
        g.force(0);
        g.day();
        T.due("own 0", g.spider(0, 1), 1);
        // All five WORKS are BUILT: NEED is 0. A SPIDER OUT is with nobody.
        GladSpider h = Due.on("field 1;person 20;person 1;spider 0 9;spider 1 1;work 1;work 1;work 1;work 1;work 1",
                "take 1 if spider=0 or built=5 and need=0 and hedge=13 and with=0 and day=6 and lying=0");
        h.force(0);
        Due.days(h, 6);
        T.due("not yet", h.spider(1, 1), 0);
        T.due("built", h.count(9), 5);
        T.due("hedge", h.count(8), 13);
        h.day();
        T.due("all are built", h.spider(1, 1), 1);
    }

    /** "SPIDERS by numbers, each by how all is then." */
    private static void eachByHowAllIsThen() {
        GladSpider g = Due.on("field 1;person 3;spider 0 2;spider 0 2;spider 0 2");
        g.day();
        isSpider(g, 0, 1, -1, 1, 2);
        isSpider(g, 1, 1, -1, 1, 1);
        isSpider(g, 2, 0, 0, 0, 0);
        // 1 comes BACK today: 0 had nothing to take ahead of it, 2 has behind it.
        GladSpider h = Due.on("field 1;person 0;person 3;spider 0 1;spider 1 3;spider 0 2");
        h.day();
        h.brush(0, 1);
        h.brush(2, 1);
        h.lie(0);
        h.day();
        isSpider(h, 1, 2, 0, 1, 3);
        h.lie(0);
        h.brush(0, 0);
        h.brush(2, 0);
        h.day();
        isSpider(h, 0, 0, 0, 0, 0);
        isSpider(h, 1, 0, 0, 0, 0);
        isSpider(h, 2, 1, -1, 1, 2);
        T.due("left", h.person(0, 3), 1);
    }

    /** "to the least PERSON who LIES". */
    private static void theLeastWhoLies() {
        for (int set = 1; set < 32; set++) {
            GladSpider g = Due.on("field 1;person 1;person 2;person 3;person 4;person 5;spider 2 3");
            g.day();
            for (int p = 0; p < 5; p++) {
                if ((set >> p) % 2 == 1) {
                    g.lie(p);
                }
            }
            T.due("who lies", g.count(10), set);
            T.due("came", g.day(), 3);
            isSpider(g, 0, 2, Integer.numberOfTrailingZeros(set), 1, 3);
            T.due("taken again", g.count(8), 0);
        }
    }

    /** "if nobody LIES, to the one with most PIECES, of several the least, with nothing". */
    private static void theOneWithMostPieces() {
        int[][] people = {{0, 0, 0, 0, 0}, {0, 0, 0, 0, 1}, {3, 4, 4, 4, 0}, {9, 8, 9, 8, 9}, {1, 2, 3, 4, 5}, {5, 4, 3, 2, 1}};
        int[] want = {0, 4, 1, 0, 4, 0};
        for (int i = 0; i < people.length; i++) {
            StringBuilder b = new StringBuilder("field 1");
            for (int p : people[i]) {
                b.append(";person ").append(p);
            }
            GladSpider g = Due.on(b + ";spider 3 1");
            g.cheer(3, 1);
            g.day();
            T.due("came", g.day(), 1);
            isSpider(g, 0, 2, want[i], 1, 0);
            T.due("there still", g.inHedge(3), 1);
            g.day();
            isSpider(g, 0, 0, want[i], 0, 0);
        }
    }

    /** "FAR days are left of a way that is begun", whoever LIES, is gladder or stands up by then. */
    private static void aWayThatIsBegun() {
        GladSpider g = Due.on("field 9;person 20;person 1;spider 0 4");
        g.day();
        for (int left = 9; left >= 1; left--) {
            isSpider(g, 0, 1, -1, left, 4);
            g.lie(1);
            if (left == 1 && g.person(1, 1) == 0) {
                g.lie(1);
            }
            T.due("came", g.day(), left == 1 ? 4 : 0);
        }
        isSpider(g, 0, 2, 1, 9, 4);
        g.lie(0);
        g.lie(1);
        for (int left = 9; left >= 1; left--) {
            isSpider(g, 0, 2, 1, left, 4);
            g.day();
        }
        isSpider(g, 0, 0, 1, 0, 0);
        T.due("brought", g.person(1, 0), 5);
        T.due("DAY", g.count(6), 19);
        g.day();
        isSpider(g, 0, 1, -1, 9, 4);
    }

    /** "with (how many other SPIDERS are ON that sleeve)": one that comes BACK to it is not yet. */
    private static void withNobodyOnItsWay() {
        GladSpider g = Due.on("field 1;person 9;spider 0 1;spider 0 2", "take 1 if spider=1 or day=2 and with=0");
        g.force(0);
        Due.days(g, 2);
        isSpider(g, 0, 0, 0, 0, 0);
        isSpider(g, 1, 2, 0, 1, 0);
        g.day();
        isSpider(g, 0, 1, -1, 1, 1);
        isSpider(g, 1, 0, 0, 0, 0);
    }

    /** "(999 at most by hand; DAYS that are asked go on beyond)": by more calls than an object is promised for. */
    private static void lastDayByHand() {
        GladSpider g = Due.on("field 1;person 9;spider 0 2;work 2", "take 1 if day=1001");
        g.force(0);
        Due.days(g, 998);
        T.due("DAY", g.count(6), 998);
        T.due("the last", g.day(), 0);
        T.due("DAY", g.count(6), 999);
        int[] before = Snapshot.of(g);
        T.due("no more", g.day(), -1);
        int[] behind = Snapshot.of(g);
        for (int i = 0; i < before.length; i++) {
            T.due("nothing happens " + i, behind[i], before[i]);
        }
        T.due("beyond, not yet", g.ahead(0, 2, 0), 9);
        T.due("beyond", g.ahead(0, 3, 0), 7);
        T.due("made beyond", g.made(1), 1002);
        T.due("even beyond", g.even(0), 1000);
        T.due("lowest beyond", g.lowest(0, 9, 1), 1001);
        T.due("home now", g.home(0, 0), 999);
        T.due("other ACTS", g.lie(0), 1);
        T.due("the others are undone", g.undo(), 19);
        T.due("the last day is undone", g.undo(), 18);
        T.due("DAY", g.count(6), 998);
    }

    /** "as many PIECES are in the hedge as it NEEDS": 60 at most. */
    private static void worksOnTime() {
        GladSpider g = Due.on("field 1;person 60;spider 0 9;work 60");
        Due.days(g, 19);
        T.due("54 of 60", g.count(8), 54);
        T.due("not built", g.count(9), 0);
        T.due("the last six", g.day(), 6);
        T.due("built", g.count(9), 1);
        T.due("none left", g.count(8), 0);
        GladSpider h = Due.on("field 1;person 59;spider 0 9;work 60");
        Due.days(h, 40);
        T.due("59 of 60", h.count(8), 59);
        T.due("not built", h.count(9), 0);
    }

    /** "The next WORK is BUILT, if there is one (one WORK on a DAY)", in the order told. */
    private static void allWorks() {
        GladSpider g = Due.on("field 1;person 9;spider 0 9;work 1;work 1;work 1;work 1;work 1");
        g.day();
        for (int n = 1; n <= 5; n++) {
            g.day();
            T.due("built", g.count(9), n);
            T.due("hedge", g.count(8), 9 - n);
        }
        Due.days(g, 3);
        T.due("no more", g.count(9), 5);
        T.due("hedge", g.count(8), 4);
        // A later one that NEEDS less waits.
        GladSpider h = Due.on("field 1;person 9;spider 0 9;work 10;work 1");
        Due.days(h, 9);
        T.due("none", h.count(9), 0);
        GladSpider k = Due.on("field 1;person 9;spider 0 9");
        Due.days(k, 9);
        T.due("without works", k.count(9), 0);
        T.due("hedge", k.count(8), 9);
    }

    /** "A DAY: how many PIECES came into the hedge". */
    private static void whatCameIntoTheHedge() {
        GladSpider g = Due.on("field 1;person 60;spider 0 9;spider 0 9;spider 0 9;spider 0 9;spider 0 9;spider 0 9;work 54");
        T.due("none yet", g.day(), 0);
        T.due("of six", g.day(), 54);
        T.due("all built of", g.count(8), 0);
        T.due("they come BACK", g.day(), 0);
        GladSpider h = Due.on("field 1;person 60;person 0;spider 0 9;spider 1 9");
        h.lie(1);
        h.day();
        T.due("taken again at once", h.day(), 9);
        T.due("DAY", h.count(6), 2);
    }

    /** "a PERSON LIES, or, if they did, no more": "who LIES then, as bits". */
    private static void lieOrNoMore() {
        GladSpider g = Due.on("field 1;person 1;person 1;person 1;person 1;person 1");
        int bits = 0;
        for (int p = 4; p >= 0; p--) {
            bits |= 1 << p;
            T.due("lie " + p, g.lie(p), bits);
            T.due("lies", g.person(p, 1), 1);
        }
        T.due("all", g.count(10), 31);
        for (int p = 0; p < 5; p++) {
            bits &= ~(1 << p);
            T.due("no more " + p, g.lie(p), bits);
            T.due("lies no more", g.person(p, 1), 0);
        }
        T.due("acts", g.count(12), 10);
    }

    /** "up to 99 of these; as many as now, if they have 99 or more". */
    private static void cheerUpTo99() {
        for (int much = 1; much <= 9; much++) {
            GladSpider g = Due.on("field 1;person 60;person 0");
            for (int n = 0; n < 4; n++) {
                g.cheer(0, 8);
            }
            for (int had = 92; had < 99; had += much) {
                T.due("from " + had + " by " + much, g.cheer(0, much), Math.min(99, had + much));
            }
            T.due("from 99 by " + much, g.cheer(0, much), 99);
            g.give(0, 1, 0);
            T.due("from 98 by " + much, g.cheer(0, much), 99);
            T.due("pieces", g.person(0, 0), 99);
            T.due("hers at the other", g.person(1, 2), 1);
            g.give(1, 0, 0);
            T.due("from 100 by " + much, g.cheer(0, much), 100);
            T.due("of the other's none counts", g.cheer(1, much), much);
        }
        // Other people's PIECES do not fill up the 99.
        GladSpider g = Due.on("field 1;person 60;person 60");
        give(g, 1, 0, 60);
        for (int n = 0; n < 5; n++) {
            g.cheer(0, 9);
        }
        T.due("own", g.person(0, 2), 99);
        T.due("pieces", g.person(0, 0), 159);
        T.due("as many as now is an ACT", g.cheer(0, 9), 99);
        T.due("acts", g.count(12), 20);
        g.undo();
        T.due("undone", g.person(0, 2), 99);
        g.undo();
        T.due("undone", g.person(0, 2), 96);
    }

    /** "(unlike; the first one has one)": "how many of these the other one has then". */
    private static void giveTheLast() {
        GladSpider g = Due.on("field 1;person 2;person 0;person 0;person 0;person 1");
        T.due("of two", g.give(0, 4, 0), 1);
        T.due("the last", g.give(0, 4, 0), 2);
        new Same(T, h -> {
            Due.field(h, "field 1;person 2;person 0;person 0;person 0;person 1");
            h.give(0, 4, 0);
            h.give(0, 4, 0);
        }).stays("of none", h -> h.give(0, 4, 0), -1);
        T.due("another one's, of a third one", g.give(4, 2, 0), 1);
        T.due("another one's, of a third one", g.give(4, 2, 4), 1);
        T.due("one's own come back", g.give(2, 0, 0), 1);
        T.due("own", g.person(0, 0), 1);
        T.due("what the first one has not, though the other one has", g.give(0, 4, 4), -1);
        T.due("acts", g.count(12), 5);
    }

    /** "a SPIDER that is ON a sleeve is ON another PERSON's": "on whose sleeve it was". */
    private static void brushOnSleevesAlone() {
        String text = "field 2;person 9;person 0;person 0;person 0;person 0;spider 0 1;spider 0 1;spider 0 1;spider 0 1;"
                + "spider 0 1;spider 1 1";
        GladSpider g = Due.on(text);
        for (int p = 1; p < 5; p++) {
            T.due("brush to " + p, g.brush(4, p), p - 1);
            T.due("ON", g.spider(4, 2), p);
        }
        T.due("there already", g.brush(4, 4), -1);
        T.due("back", g.brush(4, 0), 4);
        T.due("the last spider", g.brush(5, 4), 1);
        T.due("acts", g.count(12), 6);
        for (int days = 0; days <= 5; days++) {
            int n = days;
            Same same = new Same(T, h -> {
                Due.field(h, text);
                Due.days(h, n);
            });
            if (days == 0 || days == 5) {
                T.due("ON behind " + days, same.made().brush(0, 3), 0);
            } else {
                same.stays("OUT or BACK behind " + days, h -> h.brush(0, 3), -1);
            }
        }
    }

    /** "The last ACT is UNDONE": all is as it was ahead of it. */
    private static void eachActIsUndone() {
        List<Consumer<GladSpider>> acts = List.of(GladSpider::day, g -> g.lie(0), g -> g.lie(4), g -> g.cheer(1, 9),
                g -> g.give(0, 3, 0), g -> g.brush(1, 3), g -> g.brush(5, 0));
        for (Consumer<GladSpider> act : acts) {
            for (int days = 0; days <= 12; days++) {
                GladSpider g = Due.on("field 2;person 20;person 9;person 0;person 4;person 1;spider 0 9;spider 1 4;spider 2 3;"
                        + "spider 3 2;spider 4 1;spider 4 7;work 5;work 1;work 30");
                g.lie(3);
                Due.days(g, days);
                int[] before = Snapshot.of(g);
                act.accept(g);
                if (g.count(12) > before[12]) {
                    T.due("undo", g.undo(), before[12]);
                }
                int[] behind = Snapshot.of(g);
                for (int i = 0; i < before.length; i++) {
                    T.due("undone " + i, behind[i], before[i]);
                }
            }
        }
        // What a SPIDER on its way has comes back, too: of whom it is shows when it is there.
        GladSpider g = Due.on("field 1;person 3;person 2;spider 0 9");
        give(g, 1, 0, 2);
        g.day();
        Due.days(g, 2);
        g.undo();
        g.undo();
        isSpider(g, 0, 1, -1, 1, 5);
        T.due("came", g.day(), 5);
        T.due("of 0", g.inHedge(0), 3);
        T.due("of 1", g.inHedge(1), 2);
    }

    /** "The last 20 can be UNDONE, the last first." */
    private static void theLast20() {
        for (int acts = 0; acts <= 45; acts++) {
            GladSpider g = Due.on("field 1;person 0");
            for (int n = 0; n < acts; n++) {
                g.cheer(0, 1);
                T.due("that can be", g.count(12), Math.min(20, n + 1));
            }
            int can = Math.min(20, acts);
            for (int n = 1; n <= can; n++) {
                T.due("undo", g.undo(), can - n);
                T.due("the last first", g.person(0, 0), acts - n);
            }
            T.due("no more", g.undo(), -1);
            T.due("no more", g.undo(), -1);
            T.due("as it was", g.person(0, 0), acts - can);
            g.cheer(0, 9);
            T.due("another", g.count(12), 1);
            T.due("undone", g.undo(), 0);
            T.due("as it was", g.person(0, 0), acts - can);
        }
        new Same(T, g -> Due.field(g, "field 1;person 4")).stays("none to be undone", GladSpider::undo, -1);
    }

    /** ACTS are five: what else is done can't be UNDONE, and undoing leaves it. */
    private static void whatIsNoAct() {
        GladSpider g = Due.on("field 1;person 4;person 4;spider 0 1");
        Due.rule(g, "take 0");
        g.force(0);
        g.seed(4);
        g.note(0, 0, 4);
        g.image(0);
        g.feed(0, 0, 0, 0, 0);
        g.end(3);
        T.due("none of these", g.count(12), 0);
        g.lie(0);
        g.force(-1);
        g.seed(5);
        g.note(0, 1, 4);
        g.image(1);
        T.due("one", g.undo(), 0);
        T.due("force stays", g.count(5), -1);
        T.due("x stays", g.count(13), 5);
        T.due("notes stay", g.count(11), 2);
        T.due("bytes stay", g.count(14), 3);
        T.due("the image stays", g.back(1), 0);
        T.due("as it was made", g.count(10), 1);
        T.due("nothing can be undone then", g.undo(), -1);
    }
}
