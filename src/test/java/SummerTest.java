/** Promises 7 to 16: what there is, DAYS by RULES, the other ACTS, and what is undone. */
public final class SummerTest {
    private static final Due T = new Due("SummerTest");
    static final String FIELD = "field 2;person 5;person 1;spider 0 3;spider 1 2;work 2;work 9";

    public static void main(String[] args) {
        whatThereIs();
        daysWithoutRule();
        daysForOneWhoLies();
        takenFromTheFullest();
        takenFromSeveralAlike();
        fivePeople();
        takenOneByOneInTheHedge();
        waysAreAsFarAsTold();
        backToTheGladdest();
        oneWorkOnADay();
        tests();
        words();
        clausesOfRules();
        lastDay();
        lie();
        cheer();
        give();
        brush();
        undo();
        T.finish();
    }

    private static void isPerson(GladSpider g, int person, int ofFirst, int ofSecond) {
        T.due("pieces of " + person, g.person(person, 0), ofFirst + ofSecond);
        T.due("of 0 at " + person, g.person(person, 2), ofFirst);
        T.due("of 1 at " + person, g.person(person, 3), ofSecond);
    }

    private static void isSpider(GladSpider g, int spider, int place, int who, int left, int has) {
        T.due("place of " + spider, g.spider(spider, 1), place);
        T.due("who of " + spider, g.spider(spider, 2), who);
        T.due("left of " + spider, g.spider(spider, 3), left);
        T.due("load of " + spider, g.spider(spider, 4), has);
    }

    private static void whatThereIs() {
        GladSpider g = Due.on(FIELD);
        isPerson(g, 0, 5, 0);
        isPerson(g, 1, 0, 1);
        isSpider(g, 0, 0, 0, 0, 0);
        isSpider(g, 1, 0, 1, 0, 0);
        T.due("carries", g.spider(0, 0), 3);
        T.due("carries", g.spider(1, 0), 2);
        T.due("lies", g.person(0, 1), 0);
        T.due("of nobody", g.person(0, 4), 0);
        T.due("of nobody", g.person(0, 6), 0);
        T.due("what 7", g.person(0, 7), -1);
        T.due("what -1", g.person(0, -1), -1);
        T.due("person 2", g.person(2, 0), -1);
        T.due("person -1", g.person(-1, 0), -1);
        T.due("spider what 5", g.spider(0, 5), -2);
        T.due("spider what -1", g.spider(0, -1), -2);
        T.due("spider 2", g.spider(2, 0), -2);
        T.due("spider -1", g.spider(-1, 0), -2);
        T.due("inHedge", g.inHedge(1), 0);
        T.due("inHedge 2", g.inHedge(2), -1);
        T.due("inHedge -1", g.inHedge(-1), -1);
        T.due("work 0", g.work(0), 2);
        T.due("work 1", g.work(1), 9);
        T.due("work 2", g.work(2), -1);
        T.due("work -1", g.work(-1), -1);
    }

    private static void daysWithoutRule() {
        GladSpider g = Due.on(FIELD);
        T.due("day 0", g.day(), 0);
        isPerson(g, 0, 2, 0);
        isPerson(g, 1, 0, 0);
        isSpider(g, 0, 1, -1, 2, 3);
        isSpider(g, 1, 1, -1, 2, 1);
        T.due("DAY", g.count(6), 1);
        T.due("day 1", g.day(), 0);
        isSpider(g, 0, 1, -1, 1, 3);
        T.due("day 2", g.day(), 4);
        isSpider(g, 0, 2, 0, 2, 0);
        isSpider(g, 1, 2, 0, 2, 0);
        T.due("hedge of 0", g.inHedge(0), 1);
        T.due("hedge of 1", g.inHedge(1), 1);
        T.due("built", g.count(9), 1);
        T.due("hedge", g.count(8), 2);
        T.due("day 3", g.day(), 0);
        isSpider(g, 0, 2, 0, 1, 0);
        T.due("day 4", g.day(), 0);
        isSpider(g, 0, 0, 0, 0, 0);
        isSpider(g, 1, 0, 0, 0, 0);
        T.due("day 5", g.day(), 0);
        isPerson(g, 0, 0, 0);
        isSpider(g, 0, 1, -1, 2, 2);
        isSpider(g, 1, 0, 0, 0, 0);
        T.due("day 6", g.day(), 0);
        T.due("day 7", g.day(), 2);
        isSpider(g, 0, 2, 0, 2, 0);
        isSpider(g, 1, 0, 0, 0, 0);
        T.due("hedge of 0", g.inHedge(0), 3);
        T.due("built", g.count(9), 1);
        Due.days(g, 2);
        isSpider(g, 0, 0, 0, 0, 0);
        T.due("nothing to take", g.day(), 0);
        isSpider(g, 0, 0, 0, 0, 0);
        T.due("DAY", g.count(6), 11);
    }

    private static void daysForOneWhoLies() {
        GladSpider g = Due.on(FIELD);
        T.due("lie", g.lie(1), 2);
        T.due("lies", g.person(1, 1), 1);
        Due.days(g, 1);
        isSpider(g, 1, 1, -1, 2, 0);
        isPerson(g, 1, 0, 1);
        Due.days(g, 1);
        T.due("came, though taken again", g.day(), 3);
        isSpider(g, 0, 2, 1, 2, 3);
        isSpider(g, 1, 2, 1, 2, 0);
        T.due("hedge", g.count(8), 0);
        T.due("built", g.count(9), 0);
        Due.days(g, 1);
        T.due("no more", g.lie(1), 0);
        Due.days(g, 1);
        isPerson(g, 1, 3, 1);
        isSpider(g, 0, 0, 1, 0, 0);
        Due.days(g, 1);
        // Of (3, 1) the 3 of the first one's, of (0, 1) the one.
        isPerson(g, 1, 0, 0);
        isSpider(g, 0, 1, -1, 2, 3);
        isSpider(g, 1, 1, -1, 2, 1);
        Due.days(g, 1);
        g.lie(1);
        g.lie(0);
        Due.days(g, 1);
        T.due("to the least who lies", g.spider(0, 2), 0);
        T.due("to the least who lies", g.spider(1, 2), 0);
        isSpider(g, 0, 2, 0, 2, 3);
        isSpider(g, 1, 2, 0, 2, 1);
    }

    private static void takenFromTheFullest() {
        GladSpider g = Due.on("field 1;person 2;person 4;person 3;spider 0 5;spider 0 9");
        for (int n = 0; n < 3; n++) {
            g.give(1, 0, 1);
            g.give(2, 0, 2);
        }
        // (2, 3, 3): 1, 2, then 0 of three twos, 1, 2.
        g.day();
        T.due("pieces", g.person(0, 0), 0);
        T.due("first took", g.spider(0, 4), 5);
        T.due("second took", g.spider(1, 4), 3);
        g.undo();
        g.brush(1, 1);
        g.day();
        T.due("of 0", g.person(0, 2), 1);
        T.due("of 1", g.person(0, 3), 1);
        T.due("of 2", g.person(0, 4), 1);
        g.day();
        T.due("hedge of 0", g.inHedge(0), 1);
        T.due("hedge of 1", g.inHedge(1), 2 + 1);
        T.due("hedge of 2", g.inHedge(2), 2);
    }

    private static void takenFromSeveralAlike() {
        GladSpider g = Due.on("field 1;person 2;person 2;spider 0 1;spider 1 3");
        g.give(1, 0, 1);
        g.give(1, 0, 1);
        g.day();
        isPerson(g, 0, 1, 2);
        T.due("the least person's", g.spider(0, 4), 1);
        g.day();
        T.due("hedge of 0", g.inHedge(0), 1);
        T.due("hedge of 1", g.inHedge(1), 0);
    }

    private static void fivePeople() {
        GladSpider g = Due.on("field 1;person 1;person 2;person 3;person 4;person 5;spider 3 9;spider 4 9;work 60");
        for (int p = 1; p < 5; p++) {
            for (int n = 0; n < p; n++) {
                g.give(p, 0, p);
            }
        }
        T.due("pieces", g.person(0, 0), 1 + 1 + 2 + 3 + 4);
        for (int p = 0; p < 5; p++) {
            T.due("of " + p, g.person(0, 2 + p), Math.max(1, p));
        }
        T.due("all", g.count(7), 15);
        g.day();
        T.due("came", g.day(), 2);
        T.due("hedge", g.count(8), 2);
        T.due("hedge of 3", g.inHedge(3), 1);
        T.due("hedge of 4", g.inHedge(4), 1);
        T.due("all", g.count(7), 13);
        T.due("ways", g.lying(3, 0), 1);
    }

    private static void takenOneByOneInTheHedge() {
        GladSpider g = Due.on("field 1;person 5;person 3;person 0;spider 0 5;spider 1 3;spider 2 4;work 1");
        g.lie(2);
        g.day();
        T.due("came", g.day(), 8);
        // The first one takes 5 again, the second one 3; the third came with nothing and finds none.
        T.due("first has", g.spider(0, 4), 5);
        T.due("second has", g.spider(1, 4), 3);
        T.due("third has", g.spider(2, 4), 0);
        T.due("built", g.count(9), 0);
        g.day();
        T.due("of 0", g.person(2, 2), 5);
        T.due("of 1", g.person(2, 3), 3);

        GladSpider h = Due.on("field 1;person 3;person 3;spider 0 3;spider 1 3;spider 0 2;work 3");
        h.brush(2, 1);
        h.day();
        h.lie(0);
        h.brush(2, 0);
        h.day();
        // Spider 0 lays off (3, 0) and takes it again, so does spider 1 with (0, 3); 2 went OUT today.
        T.due("of 0", h.spider(0, 4), 3);
        T.due("of 1", h.spider(1, 4), 3);
        T.due("hedge", h.count(8), 0);
        T.due("third", h.spider(2, 1), 1);
    }

    private static void waysAreAsFarAsTold() {
        for (int far = 1; far <= 9; far++) {
            GladSpider g = Due.on("field " + far + ";person 60;spider 0 9");
            g.day();
            for (int n = far; n > 0; n--) {
                isSpider(g, 0, 1, -1, n, 9);
                T.due("came", g.day(), n == 1 ? 9 : 0);
            }
            for (int n = far; n > 0; n--) {
                isSpider(g, 0, 2, 0, n, 0);
                g.day();
            }
            isSpider(g, 0, 0, 0, 0, 0);
            T.due("DAY", g.count(6), 2 * far + 1);
        }
    }

    private static void backToTheGladdest() {
        GladSpider g = Due.on("field 1;person 3;person 6;person 6;spider 0 1");
        Due.days(g, 2);
        T.due("the least of several", g.spider(0, 2), 1);
        g.cheer(0, 9);
        T.due("it goes where it set out for", g.spider(0, 2), 1);
        g.day();
        isSpider(g, 0, 0, 1, 0, 0);
    }

    private static void oneWorkOnADay() {
        GladSpider g = Due.on("field 1;person 9;spider 0 9;work 1;work 3;work 5;work 2");
        Due.days(g, 2);
        T.due("built", g.count(9), 1);
        T.due("hedge", g.count(8), 8);
        g.day();
        T.due("built", g.count(9), 2);
        T.due("hedge", g.count(8), 5);
        g.day();
        T.due("just as many as it needs", g.count(9), 3);
        T.due("hedge", g.count(8), 0);
        Due.days(g, 5);
        T.due("not the last one", g.count(9), 3);
        T.due("all pieces", g.count(7), 0);
    }

    private static boolean leaves(String field, String rule) {
        GladSpider g = Due.on(field, rule);
        T.due("rule " + rule, g.count(4), 1);
        g.force(0);
        g.day();
        return g.spider(0, 1) == 1;
    }

    private static void holds(String test, boolean want) {
        T.due(test, leaves("field 1;person 1;spider 0 1", "take 1 if " + test) ? 1 : 0, want ? 1 : 0);
    }

    private static void tests() {
        holds("1<2", true);
        holds("2<2", false);
        holds("2<=2", true);
        holds("3<=2", false);
        holds("2=2", true);
        holds("2=3", false);
        holds("2>=2", true);
        holds("2>=3", false);
        holds("3>2", true);
        holds("2>2", false);
        holds("1=1 or 1=1 and 1=2", true);
        holds("1=2 and 1=1 or 1=1", true);
        holds("[1=1 or 1=1] and 1=2", false);
        holds("1=2 or 1=3 or 1=1", true);
        holds("1=1 and 2=2 and 3=4", false);
        holds("not 1=2 and 1=2", false);
        holds("not [1=2 and 1=2]", true);
        holds("not not 1=1", true);
        holds("not 1=1", false);
        holds("not not 1=2", false);
        holds("not 1<1 and not 2<=1 and not 1=2 and not 1>=2 and not 1>1", true);
        holds("1<2 and 1<=2 and 1=1 and 2>=1 and 2>1", true);
        holds("2>1 and 2>=1 and 1=1 and 1<=2 and 1<2 and not 1=2", true);
        holds("not 1=2 or 1=2", true);
        holds("10-3-4=3", true);
        holds("100/10/5=2", true);
        holds("100/10*5=50", true);
        holds("2+3*4=14", true);
        holds("3*4+2=14", true);
        holds("17%10%4=3", true);
        holds("7/2=3", true);
        holds("0-7/2=0-3", true);
        holds("7/0=0", true);
        holds("7%0=0", true);
        holds("5+0/0=5", true);
        holds("0-1<0", true);
        // 99999 ^ 4 * 2 is 15524559382903683842, that is -2922184690805867774 in 64 bits.
        holds("99999*99999*99999*99999*2<0", true);
        holds("99999*99999*99999*99999*2%10=0-4", true);
        holds("99999*99999*99999*99999*2/3%10=0-4", true);
        holds("[glad=1]", true);
        holds("[[glad=1]or[glad=2]]and own=1", true);
    }

    private static void words() {
        String[] words = {"spider", "person", "carries", "glad", "own", "hedge", "built", "need", "with", "lying", "day"};
        int[] atFirst = {1, 2, 4, 10, 9, 0, 0, 50, 1, 2, 0};
        int[] later = {1, 0, 1, 10, 10, 7, 1, 8, 1, 0, 3};
        int[] allBuilt = {1, 0, 1, 5, 5, 7, 1, 0, 0, 1, 3};
        for (int w = 0; w < words.length; w++) {
            for (int more = -1; more <= 1; more++) {
                String test = "take 1 if spider = 1 and " + words[w] + " + 1 = ";
                GladSpider g = Due.on("field 1;person 7;person 4;person 9;person 1;spider 2 5;spider 2 4;spider 0 3;"
                        + "spider 1 3;work 50;work 7", test + (atFirst[w] + more + 1));
                g.give(0, 2, 0);
                g.lie(1);
                g.lie(3);
                g.force(0);
                g.day();
                T.due("at first " + words[w] + more, g.spider(1, 1), more == 0 ? 1 : 0);

                g = Due.on("field 1;person 20;person 0;spider 0 9;spider 0 1;work 3;work 8", test + (later[w] + more + 1));
                Due.days(g, 3);
                g.force(0);
                g.day();
                T.due("later " + words[w] + more, g.spider(1, 1), more == 0 ? 1 : 0);

                g = Due.on("field 1;person 15;person 0;spider 0 9;spider 0 1;work 3", test + (allBuilt[w] + more + 1));
                Due.days(g, 3);
                g.brush(0, 1);
                g.lie(1);
                g.force(0);
                g.day();
                T.due("all built " + words[w] + more, g.spider(1, 1), more == 0 ? 1 : 0);
            }
        }
    }

    private static void clausesOfRules() {
        String three = "field 1;person 3;spider 0 2";
        String four = "field 1;person 4;spider 0 2";
        T.due("sum 0", leaves(three, "take glad - 3") ? 1 : 0, 0);
        T.due("sum 1", leaves(four, "take glad - 3") ? 1 : 0, 1);
        T.due("sum -1", leaves(three, "take glad - 4") ? 1 : 0, 0);
        T.due("first holds", leaves(four, "take 0 if glad > 3;take 1") ? 1 : 0, 0);
        T.due("second holds", leaves(three, "take 0 if glad > 3;take 1") ? 1 : 0, 1);
        T.due("none holds", leaves(four, "take 1 if glad > 4;take 1 if glad < 4") ? 1 : 0, 0);
        T.due("none asked behind", leaves(four, "take 0;take 1") ? 1 : 0, 0);
        T.due("last holds", leaves(four, "take 9 if day>0;take 9 if day>0;take 0-9 if glad=3;take 9 if glad=4") ? 1 : 0, 1);
        T.due("without pieces", leaves("field 1;person 0;spider 0 2", "take 1") ? 1 : 0, 0);

        GladSpider g = Due.on(FIELD, "take 0");
        g.force(0);
        g.lie(0);
        g.day();
        T.due("of one who lies by no rule", g.spider(0, 1), 1);
        T.due("the other stays", g.spider(1, 1), 0);

        // Each by how all is then: the second one is alone when the first one has gone.
        GladSpider h = Due.on("field 1;person 9;spider 0 1;spider 0 1;spider 0 1", "take with");
        h.force(0);
        h.day();
        T.due("first goes", h.spider(0, 1), 1);
        T.due("second goes", h.spider(1, 1), 1);
        T.due("third stays", h.spider(2, 1), 0);
    }

    private static void lastDay() {
        GladSpider g = Due.on("field 1");
        Due.days(g, 999);
        T.due("DAY", g.count(6), 999);
        T.due("no more", g.day(), -1);
        T.due("DAY", g.count(6), 999);
        T.due("undo", g.undo(), 19);
        T.due("day", g.day(), 0);
    }

    private static void lie() {
        GladSpider g = Due.on("field 1;person 1;person 1;person 1;person 1;person 1");
        T.due("lie 4", g.lie(4), 16);
        T.due("lie 0", g.lie(0), 17);
        T.due("bits", g.count(10), 17);
        T.due("lie 4", g.lie(4), 1);
        T.due("lie 5", g.lie(5), -1);
        T.due("lie -1", g.lie(-1), -1);
        T.due("acts", g.count(12), 3);
    }

    private static void cheer() {
        GladSpider g = Due.on("field 1;person 60;person 1");
        T.due("cheer", g.cheer(1, 9), 10);
        T.due("cheer", g.cheer(1, 1), 11);
        T.due("cheer 0", g.cheer(1, 0), -1);
        T.due("cheer 10", g.cheer(1, 10), -1);
        T.due("cheer -1", g.cheer(1, -1), -1);
        T.due("cheer 2", g.cheer(2, 1), -1);
        T.due("cheer -1", g.cheer(-1, 1), -1);
        T.due("acts", g.count(12), 2);
        for (int n = 1; n <= 4; n++) {
            T.due("cheer", g.cheer(0, 9), 60 + 9 * n);
        }
        T.due("up to 99", g.cheer(0, 4), 99);
        T.due("as many", g.cheer(0, 9), 99);
        T.due("acts", g.count(12), 8);
        g.give(0, 1, 0);
        T.due("own ones alone", g.cheer(0, 9), 99);
        g.give(1, 0, 0);
        T.due("own", g.person(0, 2), 100);
        T.due("as many as now", g.cheer(0, 9), 100);
        g.give(1, 0, 1);
        T.due("of these", g.cheer(0, 1), 100);
        T.due("pieces", g.person(0, 0), 101);
    }

    private static void give() {
        GladSpider g = Due.on(FIELD);
        T.due("give", g.give(0, 1, 0), 1);
        T.due("give", g.give(0, 1, 0), 2);
        isPerson(g, 0, 3, 0);
        isPerson(g, 1, 2, 1);
        T.due("give back", g.give(1, 0, 0), 4);
        T.due("give own", g.give(1, 0, 1), 1);
        isPerson(g, 0, 4, 1);
        isPerson(g, 1, 1, 0);
        T.due("has none", g.give(1, 0, 1), -1);
        T.due("alike", g.give(0, 0, 0), -1);
        T.due("one 2", g.give(2, 0, 0), -1);
        T.due("one -1", g.give(-1, 0, 0), -1);
        T.due("other 2", g.give(0, 2, 0), -1);
        T.due("other -1", g.give(0, -1, 0), -1);
        T.due("whose 2", g.give(0, 1, 2), -1);
        T.due("whose -1", g.give(0, 1, -1), -1);
        T.due("acts", g.count(12), 4);
    }

    private static void brush() {
        GladSpider g = Due.on(FIELD);
        T.due("brush", g.brush(0, 1), 0);
        isSpider(g, 0, 0, 1, 0, 0);
        T.due("there already", g.brush(0, 1), -1);
        T.due("spider 2", g.brush(2, 0), -1);
        T.due("spider -1", g.brush(-1, 0), -1);
        T.due("person 2", g.brush(0, 2), -1);
        T.due("person -1", g.brush(0, -1), -1);
        g.day();
        T.due("OUT", g.brush(0, 0), -1);
        Due.days(g, 2);
        T.due("BACK", g.brush(0, 0), -1);
        T.due("acts", g.count(12), 4);
    }

    private static void undo() {
        GladSpider g = Due.on(FIELD, "take 1");
        T.due("none", g.undo(), -1);
        g.lie(1);
        g.cheer(0, 4);
        g.give(0, 1, 0);
        g.brush(0, 1);
        g.force(0);
        g.seed(5);
        g.note(3, 0, 4);
        Due.days(g, 3);
        T.due("acts", g.count(12), 7);
        T.due("undo", g.undo(), 6);
        T.due("undo", g.undo(), 5);
        T.due("DAY", g.count(6), 1);
        isSpider(g, 0, 1, -1, 2, 0);
        T.due("undo", g.undo(), 4);
        isSpider(g, 0, 0, 1, 0, 0);
        T.due("undo brush", g.undo(), 3);
        isSpider(g, 0, 0, 0, 0, 0);
        T.due("undo give", g.undo(), 2);
        isPerson(g, 0, 9, 0);
        isPerson(g, 1, 0, 1);
        T.due("undo cheer", g.undo(), 1);
        isPerson(g, 0, 5, 0);
        T.due("lies", g.count(10), 2);
        T.due("undo lie", g.undo(), 0);
        T.due("lies", g.count(10), 0);
        T.due("none", g.undo(), -1);
        T.due("force stays", g.count(5), 0);
        T.due("x stays", g.count(13), 5);
        T.due("notes stay", g.count(11), 1);
        for (int n = 0; n < 25; n++) {
            g.cheer(1, 1);
        }
        T.due("the last 20", g.count(12), 20);
        for (int n = 19; n >= 0; n--) {
            T.due("undo", g.undo(), n);
        }
        T.due("the first 5 stay", g.person(1, 0), 6);
        T.due("none", g.undo(), -1);
        Due.days(g, 3);
        g.undo();
        g.lie(0);
        T.due("undo", g.undo(), 2);
        T.due("DAY", g.count(6), 2);
    }
}
