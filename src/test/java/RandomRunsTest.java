import java.lang.reflect.Method;
import java.lang.reflect.Modifier;
import java.nio.charset.StandardCharsets;
import java.util.ArrayList;
import java.util.Arrays;
import java.util.Comparator;
import java.util.List;
import java.util.Random;

/** Runs of drawn calls, each answered by the class and by PlainModel. The draws are the same each time. */
public final class RandomRunsTest {
    private static final Due T = new Due("RandomRunsTest");
    private static final String[] WORDS =
            {"spider", "person", "carries", "glad", "own", "hedge", "built", "need", "with", "lying", "day"};

    private final Random random;
    private final GladSpider real = new GladSpider();
    private final PlainModel model = new PlainModel();
    private final List<String> calls = new ArrayList<>();
    private boolean isWrong;

    private RandomRunsTest(long seed) {
        random = new Random(seed);
    }

    public static void main(String[] args) throws Exception {
        int runs = args.length > 0 ? Integer.parseInt(args[0]) : 300;
        int first = args.length > 1 ? Integer.parseInt(args[1]) : 1;
        for (int seed = first; seed < first + runs; seed++) {
            new RandomRunsTest(seed).run(seed);
        }
        T.finish();
    }

    private void run(int seed) throws Exception {
        if (random.nextInt(4) > 0) {
            text(field(), "field");
        }
        int rules = random.nextInt(8);
        for (int r = 0; r < rules; r++) {
            text(rule(), "rule");
        }
        for (int n = 0; n < 250 && !isWrong; n++) {
            step();
        }
        if (isWrong) {
            System.out.println("run " + seed + ": " + calls);
        }
    }

    private static final Method[] METHODS = Arrays.stream(GladSpider.class.getDeclaredMethods())
            .filter(m -> Modifier.isPublic(m.getModifiers()))
            .sorted(Comparator.comparing(Method::getName)).toArray(Method[]::new);

    private void step() throws Exception {
        int kind = random.nextInt(100);
        if (kind < 2) {
            text(random.nextInt(3) == 0 ? spoilt(field()) : field(), "field");
        } else if (kind < 6) {
            text(random.nextInt(3) == 0 ? spoilt(rule()) : rule(), "rule");
        } else if (kind < 30) {
            call("day");
        } else if (kind < 33) {
            call("lie", person());
        } else if (kind < 37) {
            call("cheer", person(), random.nextInt(11));
        } else if (kind < 41) {
            call("give", person(), person(), person());
        } else if (kind < 45) {
            call("brush", spider(), person());
        } else if (kind < 48) {
            call("force", random.nextInt(9) - 2);
        } else if (kind < 50) {
            aTrueNote();
        } else {
            Method m = METHODS[random.nextInt(METHODS.length)];
            int[] args = new int[m.getParameterCount()];
            for (int i = 0; i < args.length; i++) {
                args[i] = argument(m.getName(), i);
            }
            call(m.getName(), args);
        }
    }

    private int person() {
        return random.nextInt(12) == 0 ? random.nextInt(9) - 2 : random.nextInt(5) * random.nextInt(5) / 4;
    }

    private int spider() {
        return random.nextInt(12) == 0 ? random.nextInt(10) - 2 : random.nextInt(6) * random.nextInt(6) / 5;
    }

    /** One that a rule makes so, as drawn ones hardly ever are. */
    private void aTrueNote() throws Exception {
        call("image", 3);
        int n = random.nextInt(12);
        int person = person();
        int many = model.ahead(person, n, 0);
        if (many >= 0) {
            call("note", Math.min(60, model.count(6) + n), person, many);
        }
    }

    private int argument(String name, int i) {
        if (random.nextInt(25) == 0) {
            int[] odd = {-1, -2, Integer.MIN_VALUE, Integer.MAX_VALUE, 5, 6, 41, 61, 101, 201, 301, 10000, 32, 31};
            return odd[random.nextInt(odd.length)];
        }
        String what = name + i;
        switch (what) {
            case "person0": case "inHedge0": case "even0": case "lowest0": case "had0": case "rests0": case "rests1":
            case "pence1": case "note1": case "ahead0": case "lie0": case "brush1": case "cheer0": case "give0": case "give1":
            case "give2":
                return person();
            case "spider0": case "home0": case "brushed0": case "brush0":
                return spider();
            case "feed0": case "feed1": case "feed2": case "feed3": case "feed4": case "seed0":
                return random.nextInt();
            case "end0": return random.nextInt(400);
            case "ahead1": case "lowest1": return random.nextInt(102);
            case "lying0": case "had1": case "brushed1": return random.nextInt(42);
            case "rests2": return random.nextInt(22);
            case "had2": return random.nextInt(70);
            case "skip0": return random.nextInt(130);
            case "pence0": return random.nextInt(10001);
            case "note0": return random.nextInt(62) - 1;
            case "note2": return random.nextInt(60);
            case "look0": return random.nextInt(62);
            case "breezes0": return random.nextInt(12);
            case "breezes1": return random.nextInt(62);
            case "breezes2": return random.nextInt(102);
            case "count0": return random.nextInt(17) - 1;
            case "person1": return random.nextInt(9) - 1;
            case "image0": case "back0": return random.nextInt(5);
            case "ahead2": case "brushed2": case "rests3": return random.nextInt(4);
            case "made0": case "spider1": case "work0": case "force0": return random.nextInt(7) - 1;
            default: return random.nextInt(2);
        }
    }

    private void call(String name, int... args) throws Exception {
        Class<?>[] types = new Class<?>[args.length];
        Arrays.fill(types, int.class);
        Object[] boxed = Arrays.stream(args).boxed().toArray();
        String call = name + Arrays.toString(args);
        int got = (int) GladSpider.class.getDeclaredMethod(name, types).invoke(real, boxed);
        int want = (int) PlainModel.class.getDeclaredMethod(name, types).invoke(model, boxed);
        calls.add(call);
        T.due(call, got, want);
        isWrong |= got != want;
    }

    private void text(String text, String name) throws Exception {
        if (random.nextInt(8) > 0) {
            call("end", 0);
        }
        byte[] bytes = text.getBytes(StandardCharsets.ISO_8859_1);
        int start = model.count(14);
        for (int i = 0; i < bytes.length; i += 20) {
            call("feed", Due.four(bytes, i), Due.four(bytes, i + 4), Due.four(bytes, i + 8), Due.four(bytes, i + 12),
                    Due.four(bytes, i + 16));
        }
        if (random.nextInt(30) > 0) {
            call("end", Math.min(400, start + bytes.length));
        }
        calls.add(name + " of " + text);
        call(name);
    }

    private String field() {
        StringBuilder b = new StringBuilder("field ").append(random.nextInt(random.nextBoolean() ? 9 : 3) + 1);
        int people = 0;
        int spiders = 0;
        int works = 0;
        int clauses = random.nextInt(17);
        for (int i = 0; i < clauses; i++) {
            int kind = random.nextInt(3);
            if (kind == 0 && (people < 5 || random.nextInt(40) == 0)) {
                b.append(";person ").append(random.nextInt(random.nextBoolean() ? 61 : 12));
                people++;
            } else if (kind == 1 && people > 0 && (spiders < 6 || random.nextInt(40) == 0)) {
                b.append(";spider ").append(random.nextInt(people)).append(" ").append(random.nextInt(9) + 1);
                spiders++;
            } else if (kind == 2 && (works < 5 || random.nextInt(40) == 0)) {
                b.append(" ; work ").append(random.nextInt(random.nextBoolean() ? 60 : 9) + 1);
                works++;
            }
        }
        return b.toString();
    }

    private String rule() {
        StringBuilder b = new StringBuilder();
        int clauses = random.nextInt(12) == 0 ? 10 + random.nextInt(4) : 1 + random.nextInt(4);
        for (int c = 0; c < clauses; c++) {
            b.append(c == 0 ? "" : ";").append("take ");
            sum(b);
            if (random.nextInt(3) > 0) {
                b.append(" if ");
                test(b, random.nextInt(20) == 0 ? 12 : 3);
            }
        }
        return b.toString();
    }

    private void test(StringBuilder b, int deep) {
        int facts = 1 + random.nextInt(deep > 3 ? 1 : 3);
        for (int f = 0; f < facts; f++) {
            if (f > 0) {
                b.append(random.nextBoolean() ? " and " : " or ");
            }
            fact(b, deep);
        }
    }

    private void fact(StringBuilder b, int deep) {
        int kind = random.nextInt(deep > 3 ? 14 : 6);
        if (deep > 0 && (kind == 0 || kind > 9)) {
            b.append("not ");
            fact(b, deep - 1);
        } else if (deep > 0 && (kind == 1 || kind > 5)) {
            b.append("[");
            test(b, deep - 1);
            b.append("]");
        } else {
            sum(b);
            b.append(new String[] {"<", "<=", "=", ">=", ">"}[random.nextInt(5)]);
            sum(b);
        }
    }

    private void sum(StringBuilder b) {
        int values = random.nextInt(25) == 0 ? 20 + random.nextInt(30) : 1 + random.nextInt(3);
        for (int v = 0; v < values; v++) {
            if (v > 0) {
                b.append("+-*/%".charAt(random.nextInt(5)));
            }
            int kind = random.nextInt(20);
            if (kind < 12) {
                b.append(WORDS[random.nextInt(WORDS.length)]);
            } else {
                b.append(kind < 19 ? random.nextInt(12) : random.nextInt(100000));
            }
            b.append(random.nextInt(3) == 0 ? " " : "");
        }
    }

    private String spoilt(String text) {
        StringBuilder b = new StringBuilder(text);
        int times = 1 + random.nextInt(2);
        for (int n = 0; n < times && b.length() > 0; n++) {
            int at = random.nextInt(b.length());
            switch (random.nextInt(4)) {
                case 0 -> b.deleteCharAt(at);
                case 1 -> b.setCharAt(at, (char) random.nextInt(256));
                case 2 -> b.insert(at, " ;[]<=>+-*/%09azif".charAt(random.nextInt(18)));
                default -> b.setLength(at);
            }
        }
        return b.toString();
    }
}
