/** Promises 1 to 6: the new object, the TAPE, FIELDS, RULES and their FAULTS. */
public final class TextTest {
    private static final Due T = new Due("TextTest");

    public static void main(String[] args) {
        newObject();
        tape();
        fields();
        faultsOfFields();
        rules();
        faultsOfRules();
        depth();
        values();
        clauses();
        force();
        T.finish();
    }

    private static void newObject() {
        GladSpider g = new GladSpider();
        for (int what = 0; what <= 14; what++) {
            T.due("new, count " + what, g.count(what), what == 5 ? -1 : 0);
        }
        T.due("new, day", g.day(), -1);
        T.due("new, lie", g.lie(0), -1);
        T.due("new, cheer", g.cheer(0, 1), -1);
        T.due("new, undo", g.undo(), -1);
        T.due("new, spider", g.spider(0, 0), -2);
        T.due("new, person", g.person(0, 0), -1);
        T.due("new, inHedge", g.inHedge(0), -1);
        T.due("new, work", g.work(0), -1);
        T.due("new, ahead", g.ahead(0, 0, 3), -1);
        T.due("new, made", g.made(1), -1);
        T.due("new, lying", g.lying(1, 0), -1);
        T.due("new, skip", g.skip(0, 0), -1);
        T.due("new, owed", g.owed(0), -1);
        T.due("new, ring", g.ring(0), -1);
        T.due("new, ruled", g.ruled(0), -3);
        T.due("new, look", g.look(0, 0), -1);
        T.due("new, breezes", g.breezes(1, 1, 0, 0), -1);
        T.due("new, back", g.back(0), -1);
        T.due("new, force 0", g.force(0), -2);
        T.due("new, force none", g.force(-1), -1);
    }

    private static void tape() {
        GladSpider g = new GladSpider();
        for (int n = 1; n <= 20; n++) {
            T.due("feed", g.feed(0, 0, 0, 0, 0), 20 * n);
        }
        T.due("feed of 401", g.feed(0, 0, 0, 0, 0), -1);
        T.due("bytes", g.count(14), 400);
        T.due("end beyond", g.end(401), -1);
        T.due("end below", g.end(-1), -1);
        T.due("bytes", g.count(14), 400);
        T.due("end all", g.end(400), 400);
        T.due("end", g.end(381), 381);
        T.due("feed of 401", g.feed(0, 0, 0, 0, 0), -1);
        T.due("end", g.end(380), 380);
        T.due("feed to 400", g.feed(0, 0, 0, 0, 0), 400);
        T.due("end 0", g.end(0), 0);
        T.due("end 1", g.end(1), -1);
        // The highest byte first: "field 3;person 42" is 17 bytes.
        T.due("feed", g.feed(0x6669656c, 0x6420333b, 0x70657273, 0x6f6e2034, 0x32ffffff), 20);
        T.due("end", g.end(17), 17);
        T.due("field", g.field(), 1);
        T.due("far", g.count(0), 3);
        T.due("pieces", g.person(0, 0), 42);
        T.due("tape", g.count(14), 0);
    }

    private static void fields() {
        GladSpider g = new GladSpider();
        T.due("least field", Due.field(g, "field 1"), 0);
        T.due("told", g.day(), 0);
        T.due("no blanks", Due.field(g, "field9;person0;spider0 9;work60"), 1);
        T.due("far", g.count(0), 9);
        T.due("needs", g.work(0), 60);
        T.due("blanks", Due.field(g, "  field  00002 ; person 60 ;work 1;  spider 0 1 ; person 7;spider 1 2  "), 2);
        T.due("people", g.count(1), 2);
        T.due("spiders", g.count(2), 2);
        T.due("works", g.count(3), 1);
        T.due("carries", g.spider(1, 0), 2);
        T.due("sleeve", g.spider(1, 2), 1);
        T.due("fullest", Due.field(g, "field 1;person 1;person 2;person 3;person 4;person 5;spider 4 1;spider 3 2;"
                + "spider 2 3;spider 1 4;spider 0 5;spider 4 6;work 1;work 2;work 3;work 4;work 5"), 5);
        T.due("spiders", g.count(2), 6);
        T.due("last work", g.work(4), 5);
        T.due("last spider", g.spider(5, 0), 6);

        Due.rule(g, "take 1");
        g.force(0);
        g.seed(77);
        g.note(1, 0, 1);
        g.lie(2);
        g.day();
        T.due("another", Due.field(g, "field 3;person 8"), 1);
        T.due("force stays", g.count(5), 0);
        T.due("x stays", g.count(13), 77);
        T.due("no notes", g.count(11), 0);
        T.due("no acts", g.count(12), 0);
        T.due("day", g.count(6), 0);
        T.due("nobody lies", g.count(10), 0);
        T.due("pieces", g.count(7), 8);

        faultOfAField(g);
        staleBytes();
        nothingIsLeftOver();
    }

    /** The TAPE is empty behind it; all else that a FIELD would put an end to stays. */
    private static void faultOfAField(GladSpider g) {
        g.day();
        g.note(1, 0, 1);
        int[] before = Snapshot.of(g);
        T.due("fault", Due.field(g, "field 3;person 61"), Due.fault(15, 1));
        int[] behind = Snapshot.of(g);
        for (int i = 0; i < before.length; i++) {
            T.due("behind the fault " + i, behind[i], before[i]);
        }
        T.due("tape", g.count(14), 0);
        T.due("notes stay", g.count(11), 1);
        T.due("acts stay", g.count(12), 1);
        T.due("the empty tape", g.field(), Due.fault(0, 0));
        T.due("the first twenty", g.feed(0, 0, 0, 0, 0), 20);
        g.end(0);
        T.due("undo", g.undo(), 0);
        T.due("the day undone", g.count(6), 0);
    }

    /** What stood behind the end before is not read. */
    private static void staleBytes() {
        GladSpider g = new GladSpider();
        Due.tape(g, "field 1;person 12");
        g.end(16);
        T.due("a digit behind", g.field(), 1);
        T.due("pieces", g.person(0, 0), 1);
        Due.tape(g, "take gladly");
        g.end(9);
        T.due("letters behind", g.rule(), 0);
    }

    private static void nothingIsLeftOver() {
        String last = "field 3;person 8;person 2;person 0;spider 1 4;spider 1 4;work 30";
        GladSpider g = Due.on("field 1;person 9;person 9;person 9;person 9;person 9;spider 0 2;spider 1 3;spider 2 4;work 1");
        g.give(0, 1, 0);
        g.lie(4);
        Due.days(g, 7);
        Due.field(g, last);
        int[] got = Snapshot.of(g);
        int[] want = Snapshot.of(Due.on(last));
        for (int i = 0; i < want.length; i++) {
            T.due("as in a new object " + i, got[i], want[i]);
        }
    }

    private static void isFieldFault(String text, int place, int kind) {
        GladSpider g = new GladSpider();
        T.due("field " + text, Due.field(g, text), Due.fault(place, kind));
        T.due("no field of " + text, g.count(0), 0);
        T.due("empty behind " + text, g.count(14), 0);
    }

    private static void faultsOfFields() {
        isFieldFault("", 0, 0);
        isFieldFault("   ", 3, 0);
        isFieldFault("field", 5, 0);
        isFieldFault("field ", 6, 0);
        isFieldFault("field 0", 6, 1);
        isFieldFault("field 10", 6, 1);
        isFieldFault("field 000001", 6, 1);
        isFieldFault("field 99999999999999999999", 6, 1);
        isFieldFault("fields 1", 0, 0);
        isFieldFault("afield 1", 0, 0);
        isFieldFault("fieldz 1", 0, 0);
        isFieldFault("field 1" + " ".repeat(392) + ";", 400, 0);
        isFieldFault(" ".repeat(400), 400, 0);
        isFieldFault(";".repeat(400), 0, 0);
        isFieldFault("Field 1", 0, 0);
        isFieldFault("field x", 6, 0);
        isFieldFault("field 1x", 7, 0);
        isFieldFault("field 1 1", 8, 0);
        isFieldFault("field -1", 6, 0);
        isFieldFault("field 1;", 8, 0);
        isFieldFault("field 1; ", 9, 0);
        isFieldFault("field 1;;work 1", 8, 0);
        isFieldFault("field 1,work 1", 7, 0);
        isFieldFault("field 1\0", 7, 0);
        isFieldFault("field\t1", 5, 0);
        isFieldFault("field 1;take 1", 8, 0);
        isFieldFault("\u00e6", 0, 0);
        isFieldFault("person 0", 0, 4);
        isFieldFault(" spider", 1, 4);
        isFieldFault("work x", 0, 4);
        isFieldFault("field 1; field 1", 9, 4);
        isFieldFault("field 1;person", 14, 0);
        isFieldFault("field 1;person 61", 15, 1);
        isFieldFault("field 1;spider 0 1", 15, 1);
        isFieldFault("field 1;spider 0 1;person 1", 15, 1);
        isFieldFault("field 1;person 0;spider 1 1", 24, 1);
        isFieldFault("field 1;person 0;spider 0", 25, 0);
        isFieldFault("field 1;person 0;spider 0 0", 26, 1);
        isFieldFault("field 1;person 0;spider 0 10", 26, 1);
        isFieldFault("field 1;person 0;spider 9 x", 24, 1);
        isFieldFault("field 1;work 0", 13, 1);
        isFieldFault("field 1;work 61", 13, 1);
        isFieldFault("field 1" + ";person 1".repeat(6), 7 + 5 * 9 + 1, 4);
        isFieldFault("field 1" + ";person 1".repeat(5) + ";person", 7 + 5 * 9 + 1, 4);
        isFieldFault("field 1;person 1" + ";spider 0 1".repeat(7), 16 + 6 * 11 + 1, 4);
        isFieldFault("field 1" + ";work 1".repeat(6), 7 + 5 * 7 + 1, 4);
        isFieldFault("field 1" + ";work 1".repeat(5) + ";field", 7 + 5 * 7 + 1, 4);
    }

    private static void rules() {
        GladSpider g = new GladSpider();
        T.due("rule 0", Due.rule(g, "take 1"), 0);
        T.due("tape", g.count(14), 0);
        T.due("rule 1", Due.rule(g, "take1+2*glad/3%4-own if spider<1 or not person<=2 and[carries=3]"), 1);
        T.due("rule 2", Due.rule(g, " take 1 if hedge >= 99999;take built - need;take 0 if with > lying or day = 00000 "), 2);
        T.due("fault", Due.rule(g, "take 1 if"), Due.fault(9, 0));
        T.due("tape behind a fault", g.count(14), 0);
        T.due("rules", g.count(4), 3);
        T.due("the empty tape", g.rule(), Due.fault(0, 0));
        T.due("the first twenty", g.feed(0, 0, 0, 0, 0), 20);
        T.due("rule 3", Due.rule(g, "take 01"), 3);
        T.due("rule 4", Due.rule(g, "take 2"), 4);
        T.due("rule 5", Due.rule(g, "take 3"), 5);
        T.due("rule 6", Due.rule(g, "take 4"), -1);
        T.due("nothing happened", g.count(14), 6);
        T.due("rules", g.count(4), 6);
        T.due("none by a fault", Due.rule(g, "take"), -1);
        T.due("nothing happened", g.count(14), 4);
    }

    private static void isRuleFault(String text, int place, int kind) {
        GladSpider g = new GladSpider();
        T.due("rule " + text, Due.rule(g, text), Due.fault(place, kind));
        T.due("no rule of " + text, g.count(4), 0);
        T.due("empty behind " + text, g.count(14), 0);
    }

    private static void isRule(String text) {
        T.due("rule " + text, Due.rule(new GladSpider(), text), 0);
    }

    private static void faultsOfRules() {
        isRuleFault("", 0, 0);
        isRuleFault("take", 4, 0);
        isRuleFault("takes 1", 0, 0);
        isRuleFault("1", 0, 0);
        isRuleFault("field 1", 0, 0);
        isRuleFault("take x", 5, 0);
        isRuleFault("take work", 5, 0);
        isRuleFault("take field", 5, 0);
        isRuleFault("take -1", 5, 0);
        isRuleFault("take 123456", 5, 1);
        isRuleFault("take 12345x", 10, 0);
        isRuleFault("take 1;", 7, 0);
        isRuleFault("take 1 2", 7, 0);
        isRuleFault("take 1 if", 9, 0);
        isRuleFault("take 1 if 2", 11, 0);
        isRuleFault("take 1 if 2;", 11, 0);
        isRuleFault("take 1 if 2 <", 13, 0);
        isRuleFault("take 1 if 2 < = 3", 14, 0);
        isRuleFault("take 1 if 2 =< 3", 13, 0);
        isRuleFault("take 1 if 2 == 3", 13, 0);
        isRuleFault("take 1 if 2 <> 3", 13, 0);
        isRuleFault("take 1 if 2 < 3 < 4", 16, 0);
        isRuleFault("take 1 if 2 < 3 and", 19, 0);
        isRuleFault("take 1 if 2 < 3 or or", 19, 0);
        isRuleFault("take 1 if 2 < not 3", 14, 0);
        isRuleFault("take 1 if [2 < 3", 16, 0);
        isRuleFault("take 1 if glad = 1]", 18, 0);
        isRuleFault("take 1 if []", 11, 0);
        isRuleFault("take 1 if [2] < 3", 12, 0);
        isRuleFault("take 1 if [2 < 3] + 4", 18, 0);
        isRuleFault("take 1 if 2 < [3]", 14, 0);
        isRuleFault("take [1]", 5, 0);
        isRuleFault("take 1 if 2 < 3 if 4 < 5", 16, 0);
        isRuleFault("take 1ifglad>3", 6, 0);
        isRuleFault("take 5 %", 8, 0);
        isRuleFault("take 5 */ 1", 8, 0);
        isRuleFault("take 5 + + 1", 9, 0);
        isRuleFault("take 5 + 123456", 9, 1);
        isRuleFault("take 5 if 123456 x", 10, 1);
        isRuleFault("take 5;take", 11, 0);
        isRuleFault("take 5 if not", 13, 0);
        isRuleFault("take 5 if not]", 13, 0);
        isRuleFault("take 5 ! 1", 7, 0);
        isRuleFault("take 5 \u00ff", 7, 0);
        isRule("take5if[5<3]and not[glad=4]or 1>=1;take 0");
    }

    private static void depth() {
        String open = "[".repeat(10);
        String close = "]".repeat(10);
        isRule("take 1 if " + open + "1=1" + close);
        isRuleFault("take 1 if " + open + "[1=1]" + close, 20, 2);
        isRuleFault("take 1 if " + open + "not 1=1" + close, 20, 2);
        isRule("take 1 if " + "not ".repeat(10) + "1=1");
        isRuleFault("take 1 if " + "not ".repeat(11) + "1=1", 50, 2);
        isRuleFault("take 1 if " + "not ".repeat(10) + "[1=1]", 50, 2);
        isRuleFault("take 1 if " + "not[".repeat(5) + "[", 30, 2);
        // Beside one another they are not within one another.
        isRule("take 1 if " + open + "1=1" + close + " and not [1=1] or " + open + "1=1" + close);
        isRule("take 1 if " + "[".repeat(9) + "[1=1] and [1=1] or not 1=1" + "]".repeat(9));
    }

    private static void values() {
        isRule("take " + "1+".repeat(59) + "1");
        isRuleFault("take " + "1+".repeat(60) + "1", 125, 3);
        isRuleFault("take " + "1+".repeat(60) + "glad", 125, 3);
        isRuleFault("take " + "1+".repeat(60) + "x", 125, 0);
        isRuleFault("take " + "1+".repeat(60) + "123456", 125, 1);
        isRuleFault("take " + "1+".repeat(60), 125, 0);
        // 1 of the take, then 3 of each FACT.
        isRule("take 1 if " + "1=1 or ".repeat(18) + "1=1");
        isRule("take 1+1 if " + "1=1 or ".repeat(18) + "1=1");
        isRule("take 1+1+1 if " + "1=1 or ".repeat(18) + "1=1");
        isRuleFault("take 1+1+1 if " + "1=1 or ".repeat(19) + "1=1", 14 + 19 * 7, 3);
        isRuleFault("take 1+1 if " + "1=1 or ".repeat(19) + "1=1", 12 + 19 * 7 + 1, 3);
        isRuleFault("take 1 if " + "1=1 or ".repeat(19) + "1=1", 10 + 19 * 7 + 2, 3);
        isRuleFault("take 1 if " + "1=1 or ".repeat(19) + "1<=1", 10 + 19 * 7 + 3, 3);
        isRuleFault("take 1+1 if " + "1=1 or ".repeat(19) + "1 1", 12 + 19 * 7 + 2, 0);
        GladSpider g = new GladSpider();
        Due.rule(g, "take " + "1+".repeat(59) + "1");
        T.due("counted anew for each rule", Due.rule(g, "take " + "1+".repeat(59) + "1"), 1);
        // They are counted over all CLAUSES.
        isRuleFault("take " + "1+".repeat(58) + "1;take 1;take 1", 135, 3);
    }

    private static void clauses() {
        isRule("take 1" + ";take 1".repeat(11));
        isRuleFault("take 1" + ";take 1".repeat(12), 6 + 11 * 7 + 1, 4);
        isRuleFault("take 1" + ";take 1".repeat(11) + "; take", 6 + 11 * 7 + 2, 4);
        isRuleFault("take 1" + ";take 1".repeat(11) + ";", 6 + 11 * 7 + 1, 0);
        isRuleFault("take 1" + ";take 1".repeat(11) + "; took 1", 6 + 11 * 7 + 2, 0);
    }

    private static void force() {
        GladSpider g = Due.on("field 1", "take 1", "take 2");
        T.due("force 1", g.force(1), -1);
        T.due("force 0", g.force(0), 1);
        T.due("force 2", g.force(2), -2);
        T.due("force -2", g.force(-2), -2);
        T.due("in force", g.count(5), 0);
        T.due("force none", g.force(-1), 0);
        T.due("none in force", g.count(5), -1);
    }
}
