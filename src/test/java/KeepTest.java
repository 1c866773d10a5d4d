/** Promises 30 to 37: NOTES, which RULE it was, BREEZES, counts and IMAGES. */
public final class KeepTest {
    private static final Due T = new Due("KeepTest");

    public static void main(String[] args) {
        notes();
        ruled();
        look();
        sixRules();
        seed();
        breezes();
        count();
        images();
        imagesOfNothing();
        T.finish();
    }

    private static void notes() {
        GladSpider g = new GladSpider();
        T.due("without a field", g.note(0, 0, 0), -2);
        T.due("none then", g.note(-1, 7, 7), 0);
        Due.field(g, SummerTest.FIELD);
        T.due("n -2", g.note(-2, 0, 0), -2);
        T.due("n 61", g.note(61, 0, 0), -2);
        T.due("person 2", g.note(0, 2, 0), -2);
        T.due("person -1", g.note(0, -1, 0), -2);
        T.due("many -1", g.note(0, 0, -1), -2);
        T.due("many 301", g.note(0, 0, 301), -2);
        T.due("none yet", g.count(11), 0);
        T.due("note", g.note(0, 0, 0), 1);
        T.due("note", g.note(60, 1, 300), 2);
        for (int n = 3; n <= 10; n++) {
            T.due("note", g.note(1, 0, 2), n);
        }
        T.due("an eleventh", g.note(1, 0, 2), -2);
        T.due("ten", g.count(11), 10);
        T.due("none then", g.note(-1, -5, 999), 0);
        T.due("none", g.count(11), 0);
        T.due("note", g.note(5, 0, 2), 1);
    }

    private static GladSpider suspects() {
        return Due.on("field 1;person 5;person 1;spider 0 3", "take 0", "take 1", "take 1 if day > 1");
    }

    private static void ruled() {
        GladSpider g = suspects();
        T.due("all and none", g.ruled(0), 4);
        T.due("none is first", g.ruled(1), -1);
        T.due("what 2", g.ruled(2), -3);
        T.due("what -1", g.ruled(-1), -3);
        g.note(1, 0, 5);
        T.due("0 and 2", g.ruled(0), 2);
        T.due("0 is first", g.ruled(1), 0);
        g.note(3, 0, 2);
        T.due("2", g.ruled(0), 1);
        T.due("2", g.ruled(1), 2);
        // By then it has been on the second one's sleeve, too.
        g.note(60, 1, 0);
        T.due("2", g.ruled(0), 1);
        g.note(0, 1, 0);
        T.due("none such", g.ruled(0), 0);
        T.due("none such", g.ruled(1), -2);
        g.note(-1, 0, 0);
        g.cheer(0, 9);
        g.lie(0);
        Due.days(g, 5);
        g.force(0);
        g.note(1, 0, 2);
        T.due("as the text told it", g.ruled(0), 2);
        T.due("none is first", g.ruled(1), -1);
        T.due("nothing has changed", g.count(6), 5);
        GladSpider h = Due.on("field 1;person 3");
        T.due("no rules", h.ruled(0), 1);
        h.note(60, 0, 4);
        T.due("not so on day 60", h.ruled(0), 0);
    }

    private static void look() {
        GladSpider g = suspects();
        T.due("all alike", g.look(0, 0), 0);
        T.due("all alike", g.look(0, 1), 4);
        T.due("two and two", g.look(1, 0), 0);
        T.due("two and two", g.look(1, 1), 2);
        g.note(1, 0, 5);
        T.due("0 and 2", g.look(2, 1), 2);
        T.due("they part", g.look(3, 0), 0);
        T.due("they part", g.look(3, 1), 1);
        T.due("day 60", g.look(60, 1), 1);
        T.due("n 61", g.look(61, 0), -1);
        T.due("n -1", g.look(-1, 0), -1);
        T.due("what 2", g.look(0, 2), -1);
        T.due("what -1", g.look(0, -1), -1);
        g.note(1, 0, 4);
        T.due("no rule is so", g.look(1, 0), -2);
        T.due("no rule is so", g.look(1, 1), -2);
        T.due("no people", Due.on("field 1").look(1, 0), -2);
        T.due("no people", Due.on("field 1").look(1, 1), -2);
        GladSpider h = Due.on("field 1;person 5;person 9;spider 0 3;spider 1 2", "take 0", "take person", "take spider",
                "take 1 if carries > 2");
        // The first one: 2, 5, 5, 5, 2; the second one: 7, 9, 7, 7, 9.
        T.due("3 are alike by both", h.look(1, 0), 0);
        T.due("3 are alike by both", h.look(1, 1), 3);
        h.note(1, 0, 5);
        T.due("of three 2 alike by the second", h.look(1, 0), 1);
        T.due("of three 2 alike by the second", h.look(1, 1), 2);
    }

    private static void seed() {
        GladSpider g = new GladSpider();
        T.due("at first", g.seed(12345), 0);
        T.due("below 0", g.seed(-1), -1);
        T.due("below 0", g.seed(Integer.MIN_VALUE), -1);
        T.due("was", g.seed(2147483647), 12345);
        T.due("x", g.count(13), 2147483647);
        T.due("was", g.seed(0), 2147483647);
    }

    private static void breezes() {
        GladSpider g = Due.on("field 1;person 0;person 9;spider 0 2;work 1");
        T.due("no breeze", g.breezes(1, 1, 0, 0), 9);
        T.due("DRAW 0 is below 1", g.breezes(1, 1, 1, 0), 7);
        g.seed(12345);
        // DRAWS are 21468, 9988, 22117, 3498, ..
        T.due("68 is not below 68", g.breezes(1, 1, 68, 0), 9);
        T.due("68 is below 69", g.breezes(1, 1, 69, 0), 7);
        T.due("68, 88", g.breezes(2, 1, 50, 0), 18);
        T.due("68, 88, 17", g.breezes(3, 1, 20, 0), 25);
        T.due("68 and which, 17 and which", g.breezes(2, 1, 69, 0), 14);
        T.due("x as it was", g.count(13), 12345);
        T.due("works", g.breezes(3, 2, 100, 1), 3);
        T.due("works", g.breezes(3, 2, 0, 1), 0);
        T.due("pieces", g.breezes(3, 2, 100, 0), 21);
        T.due("most", g.breezes(10, 60, 0, 0), 90);
        GladSpider h = Due.on("field 1;person 0;person 9;spider 0 2;spider 0 3");
        h.seed(12345);
        T.due("9988 mod 2: the first", h.breezes(1, 1, 69, 0), 7);
        h.seed(1406932606);
        T.due("22117 mod 2: the second", h.breezes(1, 1, 89, 0), 6);
        GladSpider k = Due.on("field 1;person 9;person 0;spider 1 2");
        T.due("0 behind the last", k.breezes(1, 1, 100, 0), 7);
        T.due("no spiders", Due.on("field 1;person 9").breezes(2, 3, 100, 0), 18);
        T.due("m 0", g.breezes(0, 1, 0, 0), -1);
        T.due("m 11", g.breezes(11, 1, 0, 0), -1);
        T.due("n 0", g.breezes(1, 0, 0, 0), -1);
        T.due("n 61", g.breezes(1, 61, 0, 0), -1);
        T.due("p -1", g.breezes(1, 1, -1, 0), -1);
        T.due("p 101", g.breezes(1, 1, 101, 0), -1);
        T.due("what 2", g.breezes(1, 1, 0, 2), -1);
        T.due("what -1", g.breezes(1, 1, 0, -1), -1);
    }

    private static void count() {
        GladSpider g = Due.on(SummerTest.FIELD, "take 1", "take 2", "take 3");
        g.force(2);
        g.lie(1);
        Due.days(g, 3);
        g.lie(1);
        g.note(1, 0, 2);
        g.note(2, 0, 2);
        g.seed(88);
        g.feed(0, 0, 0, 0, 0);
        int[] want = {2, 2, 2, 2, 3, 2, 3, 3, 0, 0, 0, 2, 5, 88, 20};
        for (int what = 0; what < want.length; what++) {
            T.due("count " + what, g.count(what), want[what]);
        }
        T.due("count 15", g.count(15), -1);
        T.due("count -1", g.count(-1), -1);
    }

    private static void sixRules() {
        GladSpider g = Due.on("field 1;person 9;spider 0 3", "take 0", "take 0", "take 0", "take 0", "take 0", "take 1");
        g.note(1, 0, 6);
        T.due("none and the last", g.ruled(0), 2);
        g.note(-1, 0, 0);
        T.due("five alike", g.look(1, 1), 5);
        g.force(5);
        g.day();
        T.due("the last in force", g.person(0, 0), 6);
    }

    private static void images() {
        GladSpider g = Due.on(SummerTest.FIELD, "take 1", "take 2");
        g.force(1);
        g.seed(5);
        g.note(1, 0, 4);
        g.lie(1);
        Due.days(g, 3);
        T.due("image", g.image(3), 3);
        T.due("acts can be undone still", g.count(12), 4);
        int[] before = Snapshot.of(g);
        T.due("never made", g.back(0), -1);
        T.due("k 4", g.image(4), -1);
        T.due("k -1", g.image(-1), -1);
        T.due("back 4", g.back(4), -1);
        T.due("back -1", g.back(-1), -1);
        T.due("nothing happened", g.count(12), 4);
        g.day();
        g.force(0);
        g.seed(6);
        g.note(2, 0, 5);
        g.cheer(0, 3);
        Due.field(g, "field 1;person 7;person 8;person 9;spider 2 2");
        Due.rule(g, "take 3");
        g.day();
        T.due("another", g.image(0), 1);
        g.feed(0, 0, 0, 0, 0);
        T.due("back", g.back(3), 3);
        int[] after = Snapshot.of(g);
        for (int i = 0; i < before.length; i++) {
            int want = i == 4 ? 3 : i == 12 ? 0 : i == 14 ? 20 : before[i];
            T.due("as it was " + i, after[i], want);
        }
        T.due("nothing to undo", g.undo(), -1);
        T.due("as told of old", g.even(0), -2);
        T.due("notes of old", g.ruled(0), 0);
        T.due("day", g.day(), 0);
        T.due("back again", g.back(3), 3);
        T.due("the other", g.back(0), 1);
        T.due("its field", g.count(1), 3);
        T.due("its force", g.count(5), 0);
        T.due("its x", g.count(13), 6);
        T.due("its notes", g.count(11), 0);
        Due.days(g, 4);
        notesOfImages();
        T.due("in place of the other", g.image(0), 5);
        g.day();
        T.due("back", g.back(0), 5);
    }

    private static void notesOfImages() {
        GladSpider g = Due.on(SummerTest.FIELD);
        g.note(0, 0, 5);
        g.image(2);
        g.note(-1, 0, 0);
        g.note(3, 1, 9);
        T.due("not so", g.ruled(0), 0);
        g.back(2);
        T.due("so", g.ruled(0), 1);
        g.note(0, 1, 1);
        T.due("so of the other one, too", g.ruled(0), 1);
        g.note(0, 1, 5);
        T.due("not so", g.ruled(0), 0);
    }

    private static void imagesOfNothing() {
        GladSpider g = new GladSpider();
        T.due("without a field", g.image(1), 0);
        Due.field(g, SummerTest.FIELD);
        g.day();
        T.due("back", g.back(1), 0);
        T.due("no field", g.count(0), 0);
        T.due("no people", g.count(1), 0);
        T.due("no pieces", g.count(7), 0);
        T.due("no day", g.day(), -1);
    }
}
