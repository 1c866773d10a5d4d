import java.util.List;

/**
 * Promises 1 to 6 at their edges: the TAPE, the two languages, and each FAULT at the last text that
 * has none and the first one that has it. The words in quotes are the document's.
 */
public final class TextEdgeTest {
    private static final Due T = new Due("TextEdgeTest");
    private static final List<String> WORDS =
            List.of("spider", "person", "carries", "glad", "own", "hedge", "built", "need", "with", "lying", "day");
    private static final List<String> SIGNS = List.of("<", "<=", "=", ">=", ">");

    public static void main(String[] args) {
        bytesOfAFeed();
        roomOfTheTape();
        endOfTheTape();
        textsOf400Bytes();
        numbersOfFields();
        personThatWasTold();
        asManyAsThereIsRoomFor();
        fieldFirstAndOnce();
        whatTheTextTold();
        fieldInPlaceOfAnother();
        faultOfAFieldChangesNothing();
        everyByteInAField();
        numbersOfRules();
        wordsOfRules();
        everyByteInARule();
        signsInARule();
        blanks();
        bracketsThatAreNoSigns();
        depth();
        valuesAndFacts();
        clausesOfRules();
        theFirstFault();
        ofOnePlaceTheLeast();
        whatStoodBehindTheEnd();
        sixRules();
        faultOfARuleChangesNothing();
        force();
        T.finish();
    }

    private static void isField(String text, int people) {
        T.due("field " + text, Due.field(new GladSpider(), text), people);
    }

    private static void isFieldFault(String text, int place, int kind) {
        T.due("field " + text, Due.field(new GladSpider(), text), Due.fault(place, kind));
    }

    private static void isRule(String text) {
        T.due("rule " + text, Due.rule(new GladSpider(), text), 0);
    }

    private static void isRuleFault(String text, int place, int kind) {
        T.due("rule " + text, Due.rule(new GladSpider(), text), Due.fault(place, kind));
    }

    /** "of each number the highest first": a byte of 255 among blanks is the FAULT's place. */
    private static void bytesOfAFeed() {
        for (int place = 0; place < 20; place++) {
            int[] five = new int[5];
            for (int i = 0; i < 20; i++) {
                five[i / 4] = five[i / 4] << 8 | (i == place ? 255 : 32);
            }
            GladSpider g = new GladSpider();
            g.feed(five[0], five[1], five[2], five[3], five[4]);
            T.due("a byte of 255 at " + place, g.field(), Due.fault(place, 0));
            g.feed(0x20202020, 0x20202020, 0x20202020, 0x20202020, 0x20202020);
            g.feed(five[0], five[1], five[2], five[3], five[4]);
            T.due("behind twenty", g.rule(), Due.fault(20 + place, 0));
        }
    }

    /** "NONE, and none comes, if it would have more than 400". */
    private static void roomOfTheTape() {
        for (int had = 378; had <= 383; had++) {
            GladSpider g = new GladSpider();
            Due.tape(g, "field 3;person 42" + " ".repeat(had - 17));
            T.due("a feed behind " + had, g.feed(0x20202020, 0, 0, 0, 0), had <= 380 ? had + 20 : -1);
            T.due("bytes", g.count(14), had <= 380 ? had + 20 : had);
            T.due("what there is", g.field(), had <= 380 ? Due.fault(had + 4, 0) : 1);
        }
        GladSpider g = new GladSpider();
        Due.tape(g, " ".repeat(399) + "!");
        for (int n = 0; n < 3; n++) {
            T.due("a feed behind 400", g.feed(0, 0, 0, 0, 0), -1);
        }
        T.due("bytes", g.count(14), 400);
        T.due("the last byte is as it was", g.field(), Due.fault(399, 0));
    }

    /** "NONE, and nothing happens, if it has not so many, or n is below 0". */
    private static void endOfTheTape() {
        GladSpider g = new GladSpider();
        T.due("0 of none", g.end(0), 0);
        T.due("1 of none", g.end(1), -1);
        T.due("-1 of none", g.end(-1), -1);
        Due.tape(g, "field 3;person 42");
        T.due("18 of 17", g.end(18), -1);
        T.due("20 of 17", g.end(20), -1);
        T.due("400 of 17", g.end(400), -1);
        T.due("-1", g.end(-1), -1);
        T.due("the least int", g.end(Integer.MIN_VALUE), -1);
        T.due("the most", g.end(Integer.MAX_VALUE), -1);
        T.due("bytes", g.count(14), 17);
        T.due("17 of 17", g.end(17), 17);
        T.due("16 of 17", g.end(16), 16);
        T.due("17 of 16", g.end(17), -1);
        T.due("its first bytes", g.field(), 1);
        T.due("the first digit alone", g.person(0, 0), 4);
        T.due("1 of none again", g.end(1), -1);
        Due.tape(g, "field 1");
        T.due("none", g.end(0), 0);
        T.due("the empty text", g.field(), Due.fault(0, 0));
    }

    /** "a text of at most 400 bytes". */
    private static void textsOf400Bytes() {
        GladSpider g = new GladSpider();
        String field = "field 1" + " ".repeat(384) + ";person 9";
        T.due("bytes", field.length(), 400);
        T.due("a field of 400", Due.field(g, field), 1);
        T.due("its last clause", g.person(0, 0), 9);
        String rule = "take 1 if 1=2;" + " ".repeat(380) + "take 1";
        T.due("bytes", rule.length(), 400);
        Due.field(g, "field 1;person 9;spider 0 1");
        T.due("a rule of 400", Due.rule(g, rule), 0);
        g.force(0);
        g.day();
        T.due("its last clause", g.spider(0, 1), 1);
        isFieldFault("field 1" + " ".repeat(384) + ";person x", 399, 0);
        isFieldFault("field 1" + " ".repeat(386) + ";person", 400, 0);
        isRuleFault("take 1" + " ".repeat(393) + ";", 400, 0);
        isRuleFault("take 1" + " ".repeat(393) + "!", 399, 0);
        isRuleFault(" ".repeat(400), 400, 0);
        isRuleFault("[".repeat(400), 0, 0);
        isRuleFault("take 1 if " + "[".repeat(390), 20, 2);
        isRuleFault("take " + "1".repeat(395), 5, 1);
        isRuleFault("take " + "a".repeat(395), 5, 0);
        isRuleFault("take " + "1+".repeat(197) + "1", 125, 3);
        // A token that ends with the last byte there can be.
        for (String sign : SIGNS) {
            isRuleFault("take 1 if" + " ".repeat(390 - sign.length()) + "1" + sign, 400, 0);
        }
        isRule("take" + " ".repeat(392) + "glad");
        isRule("take" + " ".repeat(391) + "99999");
        isRuleFault("take" + " ".repeat(391) + "glads", 395, 0);
        isRule("take 1 if 1=1 and [1=1 " + " ".repeat(376) + "]");
    }

    private static void isNumber(String before, int least, int most, String behind, int people) {
        int place = before.length();
        isField(before + least + behind, people);
        isField(before + most + behind, people);
        isField(before + "0000" + least + behind, people);
        isField(before + "00000".substring(("" + most).length()) + most + behind, people);
        isFieldFault(before + (most + 1) + behind, place, 1);
        isFieldFault(before + "99999" + behind, place, 1);
        isFieldFault(before + "100000" + behind, place, 1);
        isFieldFault(before + "00000" + least + behind, place, 1);
        isFieldFault(before + "4294967297" + behind, place, 1);
        isFieldFault(before + "18446744073709551617" + behind, place, 1);
        isFieldFault(before + "-1" + behind, place, 0);
        isFieldFault(before + "x" + behind, place, 0);
        if (least > 0) {
            isFieldFault(before + (least - 1) + behind, place, 1);
            isFieldFault(before + "00000" + behind, place, 1);
        }
    }

    /** "FAR 1 to 9", "0 to 60", "CARRIES 1 to 9", "NEEDS 1 to 60". */
    private static void numbersOfFields() {
        isNumber("field ", 1, 9, "", 0);
        isNumber("field ", 1, 9, ";person 1", 1);
        isNumber("field 1;person ", 0, 60, "", 1);
        isNumber("field 1;person ", 0, 60, ";work 1", 1);
        isNumber("field 1;person 0;spider ", 0, 0, " 1", 1);
        isNumber("field 1;person 0;person 0;spider ", 0, 1, " 1;person 0", 3);
        isNumber("field 1;person 0;spider 0 ", 1, 9, "", 1);
        isNumber("field 1;person 0;spider 0 ", 1, 9, ";work 1", 1);
        isNumber("field 1;work ", 1, 60, "", 0);
        isNumber("field 1;work ", 1, 60, " ;person 0", 1);
        GladSpider g = Due.on("field 9;person 0;person 60;spider 0 1;spider 1 9;work 1;work 60");
        T.due("FAR 9", g.count(0), 9);
        T.due("0 pieces", g.person(0, 0), 0);
        T.due("60 pieces", g.person(1, 0), 60);
        T.due("carries 1", g.spider(0, 0), 1);
        T.due("carries 9", g.spider(1, 0), 9);
        T.due("needs 1", g.work(0), 1);
        T.due("needs 60", g.work(1), 60);
    }

    /** "a PERSON that was told": ahead of the SPIDER. */
    private static void personThatWasTold() {
        isFieldFault("field 1;spider 0 1", 15, 1);
        for (int people = 1; people <= 5; people++) {
            String text = "field 1" + ";person 3".repeat(people) + ";spider ";
            isField(text + (people - 1) + " 1", people);
            isFieldFault(text + people + " 1", text.length(), 1);
            if (people < 5) {
                isFieldFault(text + people + " 1;person 3", text.length(), 1);
            }
        }
        isField("field 1;person 1;spider 0 1;person 1;spider 1 1", 2);
    }

    /** "a sixth PERSON, a seventh SPIDER, a sixth WORK (at its first byte)". */
    private static void asManyAsThereIsRoomFor() {
        String full = RefusalTest.FULL;
        isField(full, 5);
        for (String clause : List.of("person 0", "spider 0 1", "work 1", "field 1", "person", "spider 9 99", "work x")) {
            isFieldFault(full + ";" + clause, full.length() + 1, 4);
            isFieldFault(full + " ;  " + clause, full.length() + 4, 4);
        }
        isFieldFault(full + ";", full.length() + 1, 0);
        isFieldFault(full + ";take 1", full.length() + 1, 0);
        isFieldFault(full + ";persons 1", full.length() + 1, 0);
        // Each has room of its own.
        String people = "field 1" + ";person 0".repeat(5);
        isField(people + ";spider 4 1".repeat(6), 5);
        isFieldFault(people + ";spider 4 1".repeat(7), people.length() + 6 * 11 + 1, 4);
        isField("field 1" + ";work 1".repeat(5), 0);
        isFieldFault("field 1" + ";work 1".repeat(5) + ";person 0;work 1", 7 + 5 * 7 + 10, 4);
        isFieldFault(people + ";work 1;person 0", people.length() + 8, 4);
        // Forty-one CLAUSES are too many of some kind before.
        isFieldFault("field 1" + ";work 1".repeat(40), 7 + 5 * 7 + 1, 4);
    }

    /** "once, the first CLAUSE", "a second field, another CLAUSE ahead of it". */
    private static void fieldFirstAndOnce() {
        for (String clause : List.of("person 0", "spider 0 1", "work 1", "person", "spider x", "work 99")) {
            isFieldFault(clause, 0, 4);
            isFieldFault("  " + clause + ";field 1", 2, 4);
        }
        isFieldFault("field 1;field 1", 8, 4);
        isFieldFault("field 1;field", 8, 4);
        isFieldFault("field 1;person 0;field 0", 17, 4);
        isFieldFault("field 0;field 1", 6, 1);
        isFieldFault("take 1;field 1", 0, 0);
        isFieldFault(";field 1", 0, 0);
    }

    /** "It is DAY 0; each has PIECES of their OWN alone .. no WORK is BUILT." */
    private static void whatTheTextTold() {
        GladSpider g = Due.on(RefusalTest.FULL);
        int[] pieces = {60, 0, 7, 60, 31};
        int[] sleeves = {0, 1, 2, 3, 4, 4};
        int[] carries = {9, 1, 5, 9, 2, 9};
        int[] needs = {60, 1, 60, 9, 60};
        int[] counts = {9, 5, 6, 5, 0, -1, 0, 158, 0, 0, 0, 0, 0, 0, 0};
        for (int p = 0; p < 5; p++) {
            T.due("pieces of " + p, g.person(p, 0), pieces[p]);
            T.due("nobody lies", g.person(p, 1), 0);
            for (int q = 0; q < 5; q++) {
                T.due("of " + q + " at " + p, g.person(p, 2 + q), p == q ? pieces[p] : 0);
            }
            T.due("nothing in the hedge", g.inHedge(p), 0);
            T.due("needs", g.work(p), needs[p]);
        }
        for (int s = 0; s < 6; s++) {
            int[] want = {carries[s], 0, sleeves[s], 0, 0};
            for (int what = 0; what < 5; what++) {
                T.due("spider " + s + " " + what, g.spider(s, what), want[what]);
            }
        }
        for (int what = 0; what < 15; what++) {
            T.due("count " + what, g.count(what), counts[what]);
        }
    }

    /** "in place of the one there was (no NOTES, nothing to be UNDONE; the RULE IN FORCE and x stay)". */
    private static void fieldInPlaceOfAnother() {
        String least = "field 1;person 2;spider 0 1";
        GladSpider g = Due.on("field 1;person 20;person 20;person 20;spider 0 9;spider 1 9;spider 2 2;work 3;work 40", "take 1", "take 0");
        g.force(1);
        g.seed(99);
        g.note(0, 2, 9);
        g.image(2);
        g.force(0);
        Due.days(g, 4);
        g.lie(2);
        T.due("in the hedge", g.count(8), 17);
        T.due("built", g.count(9), 1);
        T.due("on its way with pieces", g.spider(0, 4), 9);
        g.force(1);
        T.due("in its place", Due.field(g, least), 1);
        int[] got = Snapshot.of(g);
        int[] want = Snapshot.of(Due.on(least));
        want[4] = 2;
        want[5] = 1;
        want[13] = 99;
        for (int i = 0; i < want.length; i++) {
            T.due("as told " + i, got[i], want[i]);
        }
        T.due("nothing to be undone", g.undo(), -1);
        T.due("no notes", g.ruled(0), 3);
        T.due("the rule in force", g.day(), 0);
        T.due("stays", g.spider(0, 1), 0);
        T.due("images stay", g.back(2), 0);
        T.due("people", g.count(1), 3);
        T.due("its notes", g.count(11), 1);
        Due.field(g, "field 1;person 9;person 9;person 9;person 9;spider 0 1;spider 0 2;spider 1 2;spider 2 3;work 60");
        for (int p = 0; p < 4; p++) {
            T.due("nothing is left in the hedge", g.inHedge(p), 0);
        }
        for (int s = 0; s < 4; s++) {
            T.due("nothing is left on a spider", g.spider(s, 4), 0);
        }
    }

    /** "-2 - its FAULT, and all stays": but for the TAPE, which is empty. */
    private static void faultOfAFieldChangesNothing() {
        for (String text : List.of("", "field 0", "field 1;person 1;person 2;spider 0 1;work 61", "person 1", "field 1;field 1",
                RefusalTest.FULL + ";person 1")) {
            new Same(T, g -> {
                RefusalTest.tellAll(g);
                g.end(0);
            }).stays("a fault of " + text, g -> Due.field(g, text) < -2 ? 1 : 0, 1);
        }
    }

    /** "0 a byte or WORD that can't stand there": each byte in place of the one between two CLAUSES, and ahead. */
    private static void everyByteInAField() {
        for (char c = 0; c < 256; c++) {
            String text = "field 1" + c + "work 2";
            if (c == ';') {
                isField(text, 0);
            } else if (c == ' ') {
                isFieldFault(text, 8, 0);
            } else if (c >= '0' && c <= '9') {
                isFieldFault(text, 6, 1);
            } else {
                isFieldFault(text, 7, 0);
            }
            if (c == ' ') {
                isField(c + "field 1" + c, 0);
            } else {
                isFieldFault(c + "field 1", 0, 0);
            }
            if (c == ' ' || c == '0') {
                isField("field" + c + "1", 0);
            } else {
                boolean isLetter = c >= 'a' && c <= 'z';
                isFieldFault("field" + c + "1", isLetter ? 0 : 5, c >= '1' && c <= '9' ? 1 : 0);
            }
            if (c == 'e') {
                isField("fi" + c + "ld 1", 0);
            } else {
                isFieldFault("fi" + c + "ld 1", 0, 0);
            }
        }
    }

    /** "NUMBER (1 to 5 digits, as far as digits go on)". */
    private static void numbersOfRules() {
        for (String number : List.of("0", "9", "00000", "00001", "99999", "10000")) {
            isRule("take " + number);
            isRule("take 1+" + number + " if " + number + "<" + number + "*1");
            isRuleFault("take 0" + "00000".substring(number.length()) + number, 5, 1);
            isRuleFault("take glad if glad=0" + "00000".substring(number.length()) + number, 18, 1);
        }
        isRuleFault("take 100000", 5, 1);
        isRuleFault("take 1 if 100000=1", 10, 1);
        isRuleFault("take 4294967296", 5, 1);
        isRuleFault("take 1 2", 7, 0);
        isRuleFault("take 12345 6", 11, 0);
        isRuleFault("take .5", 5, 0);
        isRuleFault("take 1.5", 6, 0);
        GladSpider g = Due.on("field 1;person 1;spider 0 1", "take 1 if 99999-99998=1 and 00010=10 and 99999+1>99999");
        g.force(0);
        g.day();
        T.due("as many as told", g.spider(0, 1), 1);
    }

    /** "WORDS (small letters, as far as these go on)". */
    private static void wordsOfRules() {
        for (String word : WORDS) {
            isRule("take " + word);
            isRule("take" + " ".repeat(3) + word + "+" + word + " if " + word + "=" + word);
            isRuleFault("take" + word, 0, 0);
            isRuleFault("take " + word + "s", 5, 0);
            isRuleFault("take s" + word, 5, 0);
            isRuleFault("take " + word.substring(1), 5, 0);
            isRuleFault("take " + word.substring(0, word.length() - 1), 5, 0);
            isRuleFault("take " + word.toUpperCase(), 5, 0);
            isRuleFault("take " + word + "1", 5 + word.length(), 0);
            isRuleFault("take 1" + word, 6, 0);
            isRuleFault("take 1 if " + word, 10 + word.length(), 0);
            isRuleFault(word + " 1", 0, 0);
            isRuleFault("take 1;" + word + " 1", 7, 0);
            isRuleFault("take " + word + " " + word, 6 + word.length(), 0);
        }
        for (String word : List.of("field", "work", "take", "if", "or", "and", "not", "people", "far", "x", "none")) {
            isRuleFault("take " + word, 5, 0);
            isRuleFault("take 1 if 1 < " + word, 14, 0);
            isRuleFault("take 1 + " + word + " 1", 9, 0);
        }
        for (String word : List.of("field", "work", "take", "or", "and", "not", "ifs", "i", "glad")) {
            isRuleFault("take 1 " + word + " 1=1", 7, 0);
        }
        for (String word : List.of("if", "take", "not", "glad", "an", "ands", "ors", "o")) {
            isRuleFault("take 1 if 1=1 " + word + " 1=1", 14, 0);
        }
    }

    /** Each byte in place of one that joins two VALUES, of one within or behind a WORD, and of one behind a NUMBER. */
    private static void everyByteInARule() {
        for (char c = 0; c < 256; c++) {
            String sum = "take 1 " + c + " 1";
            boolean isDigit = c >= '0' && c <= '9';
            if ("+-*/%".indexOf(c) >= 0) {
                isRule(sum);
            } else {
                isRuleFault(sum, c == ' ' || c == ';' ? 9 : 7, 0);
            }
            String fact = "take 1 if 1" + c + "1";
            if ("<=>".indexOf(c) >= 0) {
                isRule(fact);
            } else {
                isRuleFault(fact, isDigit || "+-*/%".indexOf(c) >= 0 ? 13 : c == ' ' ? 12 : 11, 0);
            }
            String word = "take gl" + c + "d";
            if (c == 'a') {
                isRule(word);
            } else {
                isRuleFault(word, 5, 0);
            }
            String behind = "take glad" + c;
            if (c == ' ') {
                isRule(behind);
            } else {
                isRuleFault(behind, c >= 'a' && c <= 'z' ? 5 : "+-*/%;".indexOf(c) >= 0 ? 10 : 9, 0);
            }
            String number = "take 1" + c;
            if (isDigit || c == ' ') {
                isRule(number);
            } else {
                isRuleFault(number, "+-*/%;".indexOf(c) >= 0 ? 7 : 6, 0);
            }
        }
    }

    /** "SIGN one of < <= = >= >": what else these bytes make can't stand. */
    private static void signsInARule() {
        for (String sign : SIGNS) {
            isRule("take 1 if 1" + sign + "1");
            isRule("take 1 if glad " + sign + " 1");
            for (String other : SIGNS) {
                boolean isOne = SIGNS.contains(sign + other);
                if (isOne) {
                    isRule("take 1 if 1" + sign + other + "1");
                } else {
                    // "<" and "==" of a sign "<=" and "=": the first two bytes are one sign.
                    isRuleFault("take 1 if 1" + sign + other + "1", 11 + sign.length(), 0);
                }
                isRuleFault("take 1 if 1" + sign + " " + other + "1", 12 + sign.length(), 0);
            }
            isRuleFault("take 1 if " + sign + "1", 10, 0);
            isRuleFault("take 1 if 1" + sign, 11 + sign.length(), 0);
            isRuleFault("take 1" + sign + "1", 6, 0);
            isRuleFault("take 1 if 1=1" + sign + "1", 13, 0);
        }
        isRuleFault("take 1 if 1<>1", 12, 0);
        isRuleFault("take 1 if 1!=1", 11, 0);
    }

    /** "Blanks (32) stand between as one likes." */
    private static void blanks() {
        isField("   field   1   ;   person   3   ;   spider   0   3   ;   work   3   ", 1);
        isField("field1;person3;spider0 3;work3", 1);
        isFieldFault("field1;person3;spider03;work3", 21, 1);
        isFieldFault("field1;person3;spider0;work3", 22, 0);
        isFieldFault("field 1;per son 3", 8, 0);
        isFieldFault("field 1;person 3 ; spider 0 1 2", 30, 0);
        isFieldFault("field 1;person 1 2", 17, 0);
        isRule("take1+2if1+2<=3and[not 1=2]or glad>=1;take0");
        isRule("  take  1  +  2  if  1  +  2  <=  3  and  [  not  1  =  2  ]  or  glad  >=  1  ;  take  0  ");
        isRuleFault("take 1 if notglad=1", 10, 0);
        isRuleFault("take 1 if 1=1 andnot 1=1", 14, 0);
        isRule("take 1 if not[1=1]and not not[1=1]");
        isRuleFault("take 1 if 1=gl ad", 12, 0);
    }

    /** "[ TEST ] (these brackets are signs)": those about "if TEST" are not. */
    private static void bracketsThatAreNoSigns() {
        isRuleFault("take 1 [ if 1=1 ]", 7, 0);
        isRuleFault("take [1] if 1=1", 5, 0);
        isRuleFault("take 1 if [1]=1", 12, 0);
        isRuleFault("take 1 if [1=1", 14, 0);
        isRuleFault("take 1 if [1=1;take 1", 14, 0);
        isRuleFault("take 1 if 1=1]", 13, 0);
        isRuleFault("take 1 if [1=1]]", 15, 0);
        isRuleFault("take 1 if [1=1][1=1]", 15, 0);
        isRuleFault("take 1 if [1=1] not 1=1", 16, 0);
        isRuleFault("take 1 if [[1=1] and]", 20, 0);
        isRuleFault("take 1 if (1=1)", 10, 0);
        isRuleFault("take 1 if {1=1}", 10, 0);
    }

    /** "[ and not lie within one another 10 deep at most", "too deep (at the sign that opens, or the word not)". */
    private static void depth() {
        for (int nots = 0; nots <= 10; nots++) {
            String open = "not ".repeat(nots) + "[".repeat(10 - nots);
            String close = "]".repeat(10 - nots);
            String text = "take 1 if " + open;
            isRule(text + "1=1" + close);
            isRule(text + "1=1 and 1=1 or 1=1" + close + " or " + open + "1=1" + close);
            isRuleFault(text + "[1=1]" + close, text.length(), 2);
            isRuleFault(text + "not 1=1" + close, text.length(), 2);
            isRuleFault(text + "  [", text.length() + 2, 2);
            isRuleFault(text + "not", text.length(), 2);
            if (nots < 10) {
                isRuleFault(text + "1=1 and [1=1]" + close, text.length() + 8, 2);
                isRuleFault(text + "1=1 or not 1=1" + close, text.length() + 7, 2);
            }
            isRuleFault(text + "1=1 or nots 1=1" + close, text.length() + 7, 0);
        }
        // What is closed lies within nothing any more, nor does the next CLAUSE.
        isRule("take 1 if " + "[".repeat(9) + "[1=1]and[1=1]or[1=1]" + "]".repeat(9) + ";take 1 if " + "not ".repeat(10) + "1=1");
        isRule("take 1 if not not not not not not not not not not 1=1 and not not not not not not not not not not 1=1");
        isRuleFault("take 1;take 1 if " + "[".repeat(11), 27, 2);
    }

    /** "at most 60 VALUES (of SUMS) and FACTS made of a SIGN, together". */
    private static void valuesAndFacts() {
        String fact = "1=1 or ";
        // One VALUE of the take and three of each FACT: 58 before the twentieth FACT.
        String nineteen = "take 1 if " + fact.repeat(19);
        int at = nineteen.length();
        isRule("take 1 if " + fact.repeat(18) + "1+1+1=1");
        isRuleFault("take 1 if " + fact.repeat(18) + "1+1+1+1=1", at - 7 + 8, 3);
        isRuleFault("take 1 if " + fact.repeat(18) + "1+1=1+1+1", at - 7 + 8, 3);
        isRuleFault(nineteen + "glad = 1", at + 7, 3);
        isRuleFault(nineteen + "glad >= 1", at + 8, 3);
        isRuleFault(nineteen + "glad + 1 >= 1", at + 9, 3);
        isRuleFault(nineteen + "glad + 1 + 1", at + 11, 3);
        isRuleFault(nineteen + "glad + 1", at + 8, 0);
        isRuleFault(nineteen + "glad", at + 4, 0);
        isRuleFault(nineteen + "[not [1=1]]", at + 8, 3);
        // [ and not are none of these, nor are take, if, and, or.
        isRule("take 1 if " + "not[1=1]and ".repeat(18) + "not[1=1]");
        isRule("take 1 if 1=1;".repeat(11) + "take 1 if 1<" + "1+".repeat(12) + "1");
        isRuleFault("take 1 if 1=1;".repeat(11) + "take 1 if 1<" + "1+".repeat(13) + "1", 154 + 12 + 26, 3);
        isRule("take " + "glad*".repeat(59) + "glad");
        isRuleFault("take " + "glad*".repeat(60) + "glad", 305, 3);
        isRuleFault("take " + "99999-".repeat(60) + "00000", 365, 3);
        isRule("take " + "1+".repeat(56) + "1 if 1=1");
        isRuleFault("take " + "1+".repeat(57) + "1 if 1=1", 5 + 114 + 5 + 2, 3);
        isRuleFault("take " + "1+".repeat(58) + "1 if 1=1", 5 + 116 + 5 + 1, 3);
        isRuleFault("take " + "1+".repeat(59) + "1 if 1=1", 5 + 118 + 5, 3);
    }

    /** "12 CLAUSES at most", "one CLAUSE too many .. (at its first byte)". */
    private static void clausesOfRules() {
        String eleven = "take 1 if 1=1;".repeat(11);
        isRule(eleven + "take 1");
        isRule(eleven + "take 1 if 1=1");
        isRule("take 1;".repeat(11) + "take 1 ");
        String twelve = "take 1;".repeat(12);
        isRuleFault(twelve + "take 1", 84, 4);
        isRuleFault(twelve + "  take", 86, 4);
        isRuleFault(twelve + "take 123456", 84, 4);
        isRuleFault(twelve + "take 1;".repeat(3), 84, 4);
        isRuleFault(twelve, 84, 0);
        isRuleFault(twelve + ";", 84, 0);
        isRuleFault(twelve + "tak", 84, 0);
        isRuleFault("", 0, 0);
        isRuleFault(";", 0, 0);
        isRuleFault("take 1;;take 1", 7, 0);
        // The twelfth one is asked, too.
        GladSpider g = Due.on("field 1;person 1;spider 0 1", "take 0 if 1=2;".repeat(11) + "take 1", "take 0 if 1=2;".repeat(12)
                .substring(0, 14 * 12 - 1));
        g.force(1);
        g.day();
        T.due("none of twelve", g.spider(0, 1), 0);
        g.force(0);
        g.day();
        T.due("the twelfth", g.spider(0, 1), 1);
    }

    /** "FAULTS, the first along the text". */
    private static void theFirstFault() {
        // 1 + 8 * its place and its kind, in numbers.
        T.due("nothing", Due.field(new GladSpider(), ""), -3);
        T.due("another clause", Due.field(new GladSpider(), "work 1"), -7);
        T.due("not as told", Due.field(new GladSpider(), "field 0"), -52);
        T.due("the end behind 400", Due.field(new GladSpider(), " ".repeat(400)), -3203);
        T.due("too deep", Due.rule(new GladSpider(), "take 1 if [[[[[[[[[[["), -165);
        T.due("too many values", Due.rule(new GladSpider(), "take " + "1+".repeat(60) + "1"), -1006);
        T.due("too many clauses", Due.rule(new GladSpider(), "take 1;".repeat(13)), -679);
        isFieldFault("field 0;person 61;what", 6, 1);
        isFieldFault("field 1;person 61;what", 15, 1);
        isFieldFault("field 1;person 60;what;field 1", 18, 0);
        isFieldFault("field 1;field 0;person 61", 8, 4);
        isFieldFault("field 1;person 0;spider 1 0", 24, 1);
        isFieldFault("field 1;person 0;spider x 0", 24, 0);
        isRuleFault("take 123456 if x", 5, 1);
        isRuleFault("take x if 123456", 5, 0);
        isRuleFault("take 1 if " + "[".repeat(11) + "123456", 20, 2);
        isRuleFault("take 1 if " + "[".repeat(10) + "123456" + "[", 20, 1);
        isRuleFault("take " + "1+".repeat(60) + "1;take 123456", 125, 3);
        isRuleFault("take 1;".repeat(12) + "take " + "1+".repeat(60), 84, 4);
        isRuleFault("take 1 if 1<;take", 12, 0);
    }

    /** "Of one place the least." */
    private static void ofOnePlaceTheLeast() {
        String sixty = "take " + "1+".repeat(60);
        isRuleFault(sixty, 125, 0);
        isRuleFault(sixty + "[", 125, 0);
        isRuleFault(sixty + "not", 125, 0);
        isRuleFault(sixty + ";", 125, 0);
        isRuleFault(sixty + "person", 125, 3);
        isRuleFault(sixty + "persons", 125, 0);
        isRuleFault(sixty + "00000", 125, 3);
        isRuleFault(sixty + "000000", 125, 1);
        // A bracket or not that can't stand there is not too deep.
        String ten = "take 1 if " + "[".repeat(10);
        isRuleFault(ten + "1[", 21, 0);
        isRuleFault(ten + "1<[", 22, 0);
        isRuleFault(ten + "1<not", 22, 0);
        isRuleFault(ten + "1=1not", 23, 0);
        isRuleFault(ten + "1=1[", 23, 0);
        isRuleFault(ten + "]", 20, 0);
        // A place where a SIGN is due, with no room for the FACT.
        String fiftyNine = "take 1+1 if " + "1=1 or ".repeat(19) + "1";
        isRuleFault(fiftyNine + "=1", fiftyNine.length(), 3);
        isRuleFault(fiftyNine + "]", fiftyNine.length(), 0);
        isRuleFault(fiftyNine, fiftyNine.length(), 0);
        isRuleFault(fiftyNine + "+1", fiftyNine.length() + 1, 3);
        isRuleFault(fiftyNine + "+", fiftyNine.length() + 1, 0);
        isRuleFault("take 1;".repeat(12) + "takes", 84, 0);
    }

    /** "The TAPE has its first n bytes alone": what stood behind goes on no token. */
    private static void whatStoodBehindTheEnd() {
        GladSpider g = new GladSpider();
        Due.tape(g, "take 1 if 1<=1");
        g.end(12);
        T.due("a sign that went on", g.rule(), Due.fault(12, 0));
        Due.tape(g, "take 1 if 1>=1");
        g.end(12);
        T.due("a sign that went on", g.rule(), Due.fault(12, 0));
        Due.tape(g, "take 123456");
        g.end(10);
        T.due("a number that went on", g.rule(), 0);
        Due.tape(g, "take glads");
        g.end(9);
        T.due("a word that went on", g.rule(), 1);
        Due.tape(g, "field 12");
        g.end(7);
        T.due("a number that went on", g.field(), 0);
        T.due("FAR", g.count(0), 1);
        Due.tape(g, "field 1;work 1");
        g.end(7);
        T.due("a clause that went on", g.field(), 0);
        T.due("no works", g.count(3), 0);
        Due.tape(g, "field 1;work 1");
        g.end(8);
        T.due("a clause that went on", g.field(), Due.fault(8, 0));
        // A feed comes behind the end, not behind what stood there.
        Due.tape(g, "field 1;person 61");
        g.end(16);
        g.feed(0x3b776f72, 0x6b203720, 0x20202020, 0x20202020, 0x20202020);
        T.due("fed behind the end", g.field(), 1);
        T.due("pieces", g.person(0, 0), 6);
        T.due("needs", g.work(0), 7);
    }

    /** "RULES 0 to 5", "NONE, and nothing happens: there are 6". */
    private static void sixRules() {
        GladSpider g = Due.on("field 1;person 9;spider 0 1");
        for (int n = 0; n < 6; n++) {
            T.due("a fault takes no number", Due.rule(g, "take 1;"), Due.fault(7, 0));
            T.due("rule " + n, Due.rule(g, "take day-" + n), n);
            T.due("the tape is empty then", g.count(14), 0);
            T.due("rules", g.count(4), n + 1);
        }
        Due.tape(g, "field 1;person 3");
        T.due("a seventh", g.rule(), -1);
        T.due("rules", g.count(4), 6);
        T.due("the tape stays", g.count(14), 16);
        T.due("its bytes, too", g.field(), 1);
        T.due("a seventh of nothing", g.rule(), -1);
        T.due("a seventh with a fault", Due.rule(g, "take x"), -1);
        T.due("the tape stays", g.count(14), 6);
        // Each of the six is the one that was told.
        for (int n = 0; n < 6; n++) {
            GladSpider h = Due.on("field 1;person 9;spider 0 1", "take day-0", "take day-1", "take day-2", "take day-3",
                    "take day-4", "take day-5");
            T.due("force " + n, h.force(n), -1);
            T.due("not by that day", h.ahead(0, n + 1, 0), 9);
            T.due("by the next", h.ahead(0, n + 2, 0), 8);
        }
    }

    /** "-2 - its FAULT": there is no more RULE, and all else stays, but for the TAPE. */
    private static void faultOfARuleChangesNothing() {
        for (String text : List.of("", "take", "take 123456", "take 1 if " + "[".repeat(11), "take " + "1+".repeat(60) + "1",
                "take 1;".repeat(13))) {
            new Same(T, g -> {
                Due.field(g, RefusalTest.FULL);
                Due.rule(g, "take 1 if day > 1");
                g.force(0);
                g.note(1, 1, 0);
                g.image(3);
                g.lie(1);
                g.day();
            }).stays("a fault of " + text, g -> Due.rule(g, text) < -2 ? 1 : 0, 1);
        }
    }

    /** "(NONE: none): which was; -2, and nothing happens, if there is none such". */
    private static void force() {
        GladSpider g = new GladSpider();
        T.due("none of none", g.force(-1), -1);
        T.due("0 of none", g.force(0), -2);
        T.due("none in force", g.count(5), -1);
        for (int n = 0; n < 6; n++) {
            T.due("not yet told", g.force(n), -2);
            Due.rule(g, "take " + n);
            T.due("told, not in force by that", g.count(5), n - 1);
            T.due("the last", g.force(n), n - 1);
            T.due("again", g.force(n), n);
        }
        for (int rule : new int[] {6, -2, Integer.MIN_VALUE, Integer.MAX_VALUE}) {
            T.due("none such", g.force(rule), -2);
            T.due("in force still", g.count(5), 5);
        }
        T.due("the first", g.force(0), 5);
        T.due("none", g.force(-1), 0);
        T.due("none again", g.force(-1), -1);
    }
}
