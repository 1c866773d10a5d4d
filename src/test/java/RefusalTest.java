import java.util.Arrays;
import java.util.List;
import java.util.function.ToIntFunction;

/**
 * Every number that a call takes, at the last value that is allowed and at the first one on either
 * side that is not: with nothing told, with a FIELD of nobody, and with as much told as there is
 * room for. What is refused, or only asked, leaves all as it was.
 */
public final class RefusalTest {
    private static final Due T = new Due("RefusalTest");
    private static final int NO = GladSpider.NONE;

    static final String FULL = "field 9;person 60;person 0;person 7;person 60;person 31;spider 0 9;spider 1 1;spider 2 5;"
            + "spider 3 9;spider 4 2;spider 4 9;work 60;work 1;work 60;work 9;work 60";

    /** A call with the least and the most of each of its numbers, and others that are allowed. */
    private record Face(String name, int refused, boolean asks, int[] least, int[] most, int[] some) {
    }

    private static int[] of(int... numbers) {
        return numbers;
    }

    public static void main(String[] args) throws Exception {
        nothingTold();
        nobodyTold();
        edgesWithAllTold();
        personIsNotAsked();
        edgesWithLessTold();
        fullCalls();
        T.finish();
    }

    /** All that can be told is: PEOPLE, SPIDERS, WORKS, RULES, NOTES, ACTS, IMAGES, bytes of the TAPE. */
    static void tellAll(GladSpider g) {
        Due.field(g, FULL);
        for (String rule : List.of("take 1", "take glad-own", "take 0", "take 1 if day%3=0", "take need-hedge", "take with")) {
            Due.rule(g, rule);
        }
        g.force(3);
        g.seed(Integer.MAX_VALUE);
        for (int n = 0; n < 10; n++) {
            g.note(n < 9 ? 0 : 1, n < 9 ? n % 5 : 0, n < 9 ? g.person(n % 5, 0) : 51);
        }
        g.image(0);
        for (int n = 0; n < 20; n++) {
            g.cheer(n % 5, 1);
        }
        g.image(1);
        g.lie(2);
        g.image(2);
        g.give(0, 1, 0);
        g.image(3);
        g.brush(5, 2);
        Due.tape(g, FULL + " ".repeat(400 - FULL.length()));
    }

    private static List<Face> faces() {
        return List.of(
                new Face("end", NO, false, of(0), of(400), of(5)),
                new Face("force", -2, false, of(-1), of(5), of(0)),
                new Face("person", NO, true, of(0, 0), of(4, 6), of(1, 1)),
                new Face("spider", -2, true, of(0, 0), of(5, 4), of(1, 1)),
                new Face("inHedge", NO, true, of(0), of(4), of(1)),
                new Face("work", NO, true, of(0), of(4), of(1)),
                new Face("lie", NO, false, of(0), of(4), of(1)),
                new Face("cheer", NO, false, of(0, 1), of(4, 9), of(1, 2)),
                new Face("give", NO, false, of(0, 0, 0), of(4, 4, 4), of(0, 2, 0)),
                new Face("brush", NO, false, of(0, 0), of(5, 4), of(0, 1)),
                new Face("ahead", NO, true, of(0, 0, 0), of(4, 100, 3), of(1, 9, 1)),
                new Face("made", NO, true, of(1), of(5), of(2)),
                new Face("even", NO, true, of(0), of(4), of(1)),
                new Face("home", NO, true, of(0, 0), of(5, 1), of(2, 0)),
                new Face("lowest", NO, true, of(0, 1, 0), of(4, 100, 1), of(2, 9, 0)),
                new Face("lying", NO, true, of(1, 0), of(40, 1), of(9, 0)),
                new Face("had", NO, true, of(0, 1, 0, 0), of(4, 40, 200, 1), of(1, 9, 9, 0)),
                new Face("brushed", NO, true, of(0, 1, 0), of(5, 40, 2), of(1, 9, 0)),
                new Face("skip", NO, true, of(0, 0), of(300, 1), of(70, 0)),
                new Face("owed", NO, true, of(0), of(1), of(0)),
                new Face("rests", NO, true, of(0, 0, 1, 0), of(4, 4, 20, 2), of(1, 2, 9, 0)),
                new Face("ring", NO, true, of(0), of(1), of(0)),
                new Face("pence", NO, true, of(0, 0), of(9999, 4), of(50, 2)),
                new Face("ruled", -3, true, of(0), of(1), of(0)),
                new Face("look", NO, true, of(0, 0), of(60, 1), of(9, 0)),
                new Face("seed", NO, false, of(0), of(Integer.MAX_VALUE), of(9)),
                new Face("breezes", NO, true, of(1, 1, 0, 0), of(10, 60, 100, 1), of(3, 9, 50, 0)),
                new Face("count", NO, true, of(0), of(14), of(6)),
                new Face("image", NO, false, of(0), of(3), of(1)),
                new Face("back", NO, false, of(0), of(3), of(1)));
    }

    private static ToIntFunction<GladSpider> call(String name, int... args) throws Exception {
        Class<?>[] types = new Class<?>[args.length];
        Arrays.fill(types, int.class);
        var method = GladSpider.class.getDeclaredMethod(name, types);
        Object[] boxed = Arrays.stream(args).boxed().toArray();
        return g -> {
            try {
                return (int) method.invoke(g, boxed);
            } catch (ReflectiveOperationException e) {
                throw new IllegalStateException(name + Arrays.toString(args), e);
            }
        };
    }

    private static int[] with(int[] args, int place, int number) {
        int[] others = args.clone();
        others[place] = number;
        return others;
    }

    private static void edgesWithAllTold() throws Exception {
        Same same = new Same(T, RefusalTest::tellAll);
        for (Face f : faces()) {
            for (int i = 0; i < f.some.length; i++) {
                for (int number : of(f.least[i] - 1, f.most[i] + 1, Integer.MIN_VALUE, Integer.MAX_VALUE)) {
                    if (number < f.least[i] || number > f.most[i]) {
                        int[] args = with(f.some, i, number);
                        same.stays(f.name + Arrays.toString(args), call(f.name, args), f.refused);
                    }
                }
                isTakenAtEdge(same, f, i, f.least[i]);
                isTakenAtEdge(same, f, i, f.most[i]);
            }
        }
    }

    private static void isTakenAtEdge(Same same, Face f, int place, int number) throws Exception {
        int[] args = with(f.some, place, number);
        String name = f.name + Arrays.toString(args);
        boolean isOneAndTheSame = f.name.equals("give") && args[0] == args[1] || f.name.equals("rests") && args[0] == args[1];
        if (isOneAndTheSame) {
            return;
        }
        if (f.asks) {
            same.staysAsked(name, call(f.name, args), f.refused);
        } else if (!f.name.equals("give") && !f.name.equals("brush")) {
            int got = call(f.name, args).applyAsInt(same.made());
            T.due(name + " is taken, not refused by " + f.refused, got == f.refused ? 1 : 0, 0);
        }
    }

    /** Promise 17: "person is not asked for these two". */
    private static void personIsNotAsked() throws Exception {
        Same same = new Same(T, RefusalTest::tellAll);
        for (int person : of(-1, 5, Integer.MIN_VALUE, Integer.MAX_VALUE)) {
            for (int what = 2; what <= 3; what++) {
                same.staysAsked("ahead of nobody", call("ahead", person, 100, what), NO);
                same.stays("ahead of nobody 101", call("ahead", person, 101, what), NO);
                same.stays("ahead of nobody -1", call("ahead", person, -1, what), NO);
            }
            same.stays("ahead of nobody, what 1", call("ahead", person, 9, 1), NO);
            same.stays("ahead of nobody, what 4", call("ahead", person, 9, 4), NO);
        }
    }

    /** The last PERSON, SPIDER, WORK, RULE and byte there is, and the next, which there could be. */
    private static void edgesWithLessTold() throws Exception {
        Same same = new Same(T, g -> {
            Due.field(g, "field 2;person 5;person 1;person 4;spider 0 3;spider 1 2;work 2");
            Due.rule(g, "take 1");
            g.cheer(0, 1);
            g.image(1);
            Due.tape(g, "field 1");
        });
        for (String name : List.of("inHedge", "even", "lie")) {
            same.stays(name + " 3", call(name, 3), NO);
        }
        for (String[] one : new String[][] {{"person", "0"}, {"cheer", "1"}}) {
            same.stays(one[0] + " 3", call(one[0], 3, Integer.parseInt(one[1])), NO);
        }
        same.stays("ahead 3", call("ahead", 3, 1, 0), NO);
        same.stays("lowest 3", call("lowest", 3, 1, 0), NO);
        same.stays("had 3", call("had", 3, 1, 0, 0), NO);
        same.stays("rests 3, 0", call("rests", 3, 0, 1, 0), NO);
        same.stays("rests 0, 3", call("rests", 0, 3, 1, 0), NO);
        same.stays("rests 3, 3", call("rests", 3, 3, 1, 0), NO);
        same.stays("pence 3", call("pence", 1, 3), NO);
        same.stays("note 3", call("note", 0, 3, 0), -2);
        same.stays("give 3, 0, 0", call("give", 3, 0, 0), NO);
        same.stays("give 0, 3, 0", call("give", 0, 3, 0), NO);
        same.stays("give 0, 1, 3", call("give", 0, 1, 3), NO);
        same.stays("brush 0, 3", call("brush", 0, 3), NO);
        same.stays("brush 2, 0", call("brush", 2, 0), NO);
        same.stays("spider 2", call("spider", 2, 0), -2);
        same.stays("home 2", call("home", 2, 0), NO);
        same.stays("brushed 2", call("brushed", 2, 1, 0), NO);
        same.stays("work 1", call("work", 1), NO);
        same.stays("force 1", call("force", 1), -2);
        same.stays("end 8", call("end", 8), NO);
        same.stays("back 0", call("back", 0), NO);
        same.stays("back 2", call("back", 2), NO);
        same.staysAsked("person 2", call("person", 2, 0), NO);
        same.staysAsked("person 2 of nobody", call("person", 2, 6), NO);
        same.staysAsked("spider 1", call("spider", 1, 0), -2);
        same.staysAsked("work 0", call("work", 0), NO);
        same.staysAsked("made of more than there are", call("made", 5), NO);
        T.due("force 0", same.made().force(0), -1);
        T.due("end 7", same.made().end(7), 7);
        T.due("back 1", same.made().back(1), 0);
    }

    /** What there is no room for, and what can't be done as all is. */
    private static void fullCalls() throws Exception {
        Same same = new Same(T, RefusalTest::tellAll);
        same.stays("feed of 420", g -> g.feed(-1, -1, -1, -1, -1), NO);
        same.stays("a seventh rule", GladSpider::rule, NO);
        same.stays("an eleventh note", g -> g.note(0, 0, 0), -2);
        same.stays("give to oneself", g -> g.give(0, 0, 0), NO);
        same.stays("give of what one has not", g -> g.give(1, 0, 4), NO);
        same.stays("brush to where it is", g -> g.brush(5, 2), NO);
        same.stays("rests of one", g -> g.rests(2, 2, 1, 0), NO);
        T.due("no more notes", same.made().note(-1, 0, 0), 0);
        T.due("undo", same.made().undo(), 19);

        Same out = new Same(T, g -> {
            tellAll(g);
            g.day();
        });
        same.staysAsked("ON a sleeve", g -> g.brushed(0, 1, 0), NO);
        out.stays("OUT can't be brushed", g -> g.brush(0, 1), NO);
        out.stays("OUT is not asked for", g -> g.brushed(0, 1, 0), NO);
        Same back = new Same(T, g -> {
            tellAll(g);
            Due.days(g, 10);
        });
        T.due("BACK", back.made().spider(0, 1), 2);
        back.stays("BACK can't be brushed", g -> g.brush(0, 1), NO);
        back.stays("BACK is not asked for", g -> g.brushed(0, 1, 0), NO);
    }

    private static void nothingTold() throws Exception {
        Same same = new Same(T, g -> { });
        for (Face f : faces()) {
            int want = switch (f.name) {
                case "force" -> -2;
                case "spider" -> -2;
                case "ruled" -> -3;
                case "count", "seed", "image" -> 0;
                default -> NO;
            };
            ToIntFunction<GladSpider> call = call(f.name, f.name.equals("end") ? of(1) : f.some);
            if (f.name.equals("seed") || f.name.equals("image")) {
                T.due("nothing told, " + f.name, call.applyAsInt(new GladSpider()), want);
            } else {
                same.stays("nothing told, " + f.name, call, want);
            }
        }
        same.stays("nothing told, end 0", g -> g.end(0), 0);
        same.stays("nothing told, force none", g -> g.force(-1), NO);
        same.stays("nothing told, note", g -> g.note(0, 0, 0), -2);
        same.stays("nothing told, no notes", g -> g.note(-1, 0, 0), 0);
        same.stays("nothing told, field", GladSpider::field, Due.fault(0, 0));
        same.stays("nothing told, rule", GladSpider::rule, Due.fault(0, 0));
        same.stays("nothing told, day", GladSpider::day, NO);
        same.stays("nothing told, undo", GladSpider::undo, NO);
        for (int what = 2; what <= 3; what++) {
            same.stays("nothing told, ahead", call("ahead", 0, 0, what), NO);
        }
        for (int what = 0; what <= 14; what++) {
            same.stays("nothing told, count", call("count", what), what == 5 ? NO : 0);
        }
    }

    private static void nobodyTold() throws Exception {
        Same same = new Same(T, g -> Due.field(g, "field 1"));
        for (Face f : faces()) {
            int want = switch (f.name) {
                case "force", "spider", "made", "owed", "look" -> -2;
                case "ruled", "lying", "skip", "ring", "breezes", "count" -> 0;
                default -> NO;
            };
            int[] args = f.name.equals("owed") ? of(1) : f.name.equals("end") ? of(1) : f.name.equals("ruled") ? of(0) : f.some;
            if (f.name.equals("ruled")) {
                same.stays("nobody told, ruled", call("ruled", args), 1);
                same.stays("nobody told, the first", g -> g.ruled(1), NO);
            } else if (!f.name.equals("seed") && !f.name.equals("image")) {
                same.stays("nobody told, " + f.name, call(f.name, args), want);
            }
        }
        same.stays("nobody told, lying", g -> g.lying(40, 1), 0);
        same.stays("nobody told, owed", g -> g.owed(0), 0);
        same.stays("nobody told, skip", g -> g.skip(300, 1), 0);
        same.stays("nobody told, ring", g -> g.ring(1), 1);
        same.stays("nobody told, look", g -> g.look(0, 1), -2);
        same.stays("nobody told, breezes", g -> g.breezes(10, 60, 100, 1), 0);
        same.stays("nobody told, hedge ahead", g -> g.ahead(0, 100, 2), 0);
        same.stays("nobody told, works ahead", g -> g.ahead(0, 100, 3), 0);
        same.stays("nobody told, note", g -> g.note(0, 0, 0), -2);
        T.due("nobody told, day", same.made().day(), 0);
    }
}
