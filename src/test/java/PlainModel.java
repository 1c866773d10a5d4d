import java.util.ArrayDeque;
import java.util.ArrayList;
import java.util.Arrays;
import java.util.Deque;
import java.util.HashMap;
import java.util.List;
import java.util.Map;
import java.util.function.Function;

/**
 * The document said once more, slowly and with the Java library: PIECES are single things in lists,
 * texts are read byte by byte, and what is asked is tried on copies. RandomRunsTest holds the class
 * against it.
 */
final class PlainModel {
    private static final class Fault extends RuntimeException {
        private static final long serialVersionUID = 1;
        final int number;

        Fault(int place, int kind) {
            super("fault", null, false, false);
            number = 1 + 8 * place + kind;
        }
    }

    private static final class Spider {
        String where = "ON";
        int who;
        int left;
        List<Integer> has = new ArrayList<>();

        Spider copy() {
            Spider s = new Spider();
            s.where = where;
            s.who = who;
            s.left = left;
            s.has = new ArrayList<>(has);
            return s;
        }
    }

    private static final class Told {
        int far;
        List<Integer> people = new ArrayList<>();
        List<int[]> spiders = new ArrayList<>();
        List<Integer> works = new ArrayList<>();
    }

    private record Moment(State state, Spider spider, int number) {
    }

    private interface Value {
        long of(Moment m);
    }

    private record Clause(Value sum, Value test) {
    }

    private static final class State {
        Told told;
        List<List<Integer>> people = new ArrayList<>();
        List<Integer> hedge = new ArrayList<>();
        List<Spider> spiders = new ArrayList<>();
        boolean[] lies = new boolean[5];
        int built;
        int day;

        State(Told told) {
            this.told = told;
            for (int p = 0; p < told.people.size(); p++) {
                List<Integer> has = new ArrayList<>();
                for (int i = 0; i < told.people.get(p); i++) {
                    has.add(p);
                }
                people.add(has);
            }
            for (int[] two : told.spiders) {
                Spider s = new Spider();
                s.who = two[0];
                spiders.add(s);
            }
        }

        State copy() {
            State c = new State(told);
            c.people.clear();
            for (List<Integer> has : people) {
                c.people.add(new ArrayList<>(has));
            }
            c.hedge.addAll(hedge);
            c.spiders.clear();
            for (Spider s : spiders) {
                c.spiders.add(s.copy());
            }
            c.lies = lies.clone();
            c.built = built;
            c.day = day;
            return c;
        }

        int bits() {
            int bits = 0;
            for (int p = 0; p < 5; p++) {
                bits += lies[p] ? 1 << p : 0;
            }
            return bits;
        }

        int all() {
            return people.stream().mapToInt(List::size).sum();
        }

        State days(int n, List<Clause> rule) {
            for (int i = 0; i < n; i++) {
                day(rule);
            }
            return this;
        }

        int day(List<Clause> rule) {
            int came = 0;
            for (int n = 0; n < spiders.size(); n++) {
                Spider s = spiders.get(n);
                int carries = told.spiders.get(n)[1];
                if (s.where.equals("ON")) {
                    if (lies[s.who]) {
                        set(s, "OUT", -1);
                    } else if (!people.get(s.who).isEmpty() && letsGo(rule, new Moment(this, s, n))) {
                        s.has.addAll(take(people.get(s.who), carries));
                        set(s, "OUT", -1);
                    }
                    continue;
                }
                s.left--;
                if (s.left > 0) {
                    continue;
                }
                if (s.where.equals("BACK")) {
                    people.get(s.who).addAll(s.has);
                    s.has.clear();
                    s.where = "ON";
                    continue;
                }
                came += s.has.size();
                hedge.addAll(s.has);
                s.has.clear();
                if (bits() > 0) {
                    int least = 0;
                    while (!lies[least]) {
                        least++;
                    }
                    s.has.addAll(take(hedge, carries));
                    set(s, "BACK", least);
                } else {
                    int most = people.stream().mapToInt(List::size).max().getAsInt();
                    int least = 0;
                    while (people.get(least).size() < most) {
                        least++;
                    }
                    set(s, "BACK", least);
                }
            }
            if (built < told.works.size() && hedge.size() >= told.works.get(built)) {
                take(hedge, told.works.get(built));
                built++;
            }
            day++;
            return came;
        }

        private void set(Spider s, String where, int who) {
            s.where = where;
            s.who = who;
            s.left = told.far;
        }

        private static boolean letsGo(List<Clause> rule, Moment m) {
            if (rule == null) {
                return true;
            }
            for (Clause c : rule) {
                if (c.test == null || c.test.of(m) != 0) {
                    return c.sum.of(m) > 0;
                }
            }
            return false;
        }

        static List<Integer> take(List<Integer> from, int n) {
            List<Integer> taken = new ArrayList<>();
            while (taken.size() < n && !from.isEmpty()) {
                int best = -1;
                int most = 0;
                for (int p = 0; p < 5; p++) {
                    int q = p;
                    int many = (int) from.stream().filter(o -> o == q).count();
                    if (many > most) {
                        best = p;
                        most = many;
                    }
                }
                from.remove(Integer.valueOf(best));
                taken.add(best);
            }
            return taken;
        }
    }

    private static int of(List<Integer> pieces, int whose) {
        int many = 0;
        for (int o : pieces) {
            many += o == whose ? 1 : 0;
        }
        return many;
    }

    /** A reader of texts that goes along the bytes. */
    private static final class Reader {
        final String text;
        int at;
        int depth;
        int values;

        Reader(String text) {
            this.text = text;
        }

        void blanks() {
            while (at < text.length() && text.charAt(at) == ' ') {
                at++;
            }
        }

        String peek() {
            blanks();
            int e = at;
            if (e >= text.length()) {
                return "";
            }
            char c = text.charAt(e);
            if (c >= 'a' && c <= 'z') {
                while (e < text.length() && text.charAt(e) >= 'a' && text.charAt(e) <= 'z') {
                    e++;
                }
            } else if (c >= '0' && c <= '9') {
                while (e < text.length() && text.charAt(e) >= '0' && text.charAt(e) <= '9') {
                    e++;
                }
            } else if (text.startsWith("<=", e) || text.startsWith(">=", e)) {
                e += 2;
            } else {
                e++;
            }
            return text.substring(at, e);
        }

        boolean is(String token) {
            if (!peek().equals(token)) {
                return false;
            }
            at += token.length();
            return true;
        }

        Fault fault(int kind) {
            blanks();
            return new Fault(at, kind);
        }

        int number(int least, int most) {
            String n = peek();
            if (n.isEmpty() || !Character.isDigit(n.charAt(0)) || n.charAt(0) > 127) {
                throw fault(0);
            }
            if (n.length() > 5 || Integer.parseInt(n) < least || Integer.parseInt(n) > most) {
                throw fault(1);
            }
            at += n.length();
            return Integer.parseInt(n);
        }

        Told field() {
            Told told = new Told();
            int clauses = 0;
            do {
                String word = peek();
                if (!List.of("field", "person", "spider", "work").contains(word)) {
                    throw fault(0);
                }
                if (word.equals("field") != (clauses == 0) || clauses == 40
                        || word.equals("person") && told.people.size() == 5
                        || word.equals("spider") && told.spiders.size() == 6
                        || word.equals("work") && told.works.size() == 5) {
                    throw fault(4);
                }
                at += word.length();
                clauses++;
                switch (word) {
                    case "field" -> told.far = number(1, 9);
                    case "person" -> told.people.add(number(0, 60));
                    case "spider" -> {
                        int person = number(0, told.people.size() - 1);
                        told.spiders.add(new int[] {person, number(1, 9)});
                    }
                    default -> told.works.add(number(1, 60));
                }
            } while (is(";"));
            atEnd();
            return told;
        }

        void atEnd() {
            blanks();
            if (at < text.length()) {
                throw fault(0);
            }
        }

        List<Clause> rule() {
            List<Clause> clauses = new ArrayList<>();
            do {
                if (!peek().equals("take")) {
                    throw fault(0);
                }
                if (clauses.size() == 12) {
                    throw fault(4);
                }
                is("take");
                Value sum = sum();
                clauses.add(new Clause(sum, is("if") ? test() : null));
            } while (is(";"));
            atEnd();
            return clauses;
        }

        Value test() {
            Value all = part();
            while (is("or")) {
                Value a = all;
                Value b = part();
                all = m -> a.of(m) != 0 || b.of(m) != 0 ? 1 : 0;
            }
            return all;
        }

        Value part() {
            Value all = fact();
            while (is("and")) {
                Value a = all;
                Value b = fact();
                all = m -> a.of(m) != 0 && b.of(m) != 0 ? 1 : 0;
            }
            return all;
        }

        Value fact() {
            String token = peek();
            if (token.equals("not") || token.equals("[")) {
                if (depth == 10) {
                    throw fault(2);
                }
                depth++;
                is(token);
                Value inner;
                if (token.equals("not")) {
                    Value f = fact();
                    inner = m -> f.of(m) == 0 ? 1 : 0;
                } else {
                    inner = test();
                    if (!is("]")) {
                        throw fault(0);
                    }
                }
                depth--;
                return inner;
            }
            Value a = sum();
            String sign = peek();
            if (!List.of("<", "<=", "=", ">=", ">").contains(sign)) {
                throw fault(0);
            }
            if (values == 60) {
                throw fault(3);
            }
            values++;
            is(sign);
            Value b = sum();
            return switch (sign) {
                case "<" -> m -> a.of(m) < b.of(m) ? 1 : 0;
                case "<=" -> m -> a.of(m) <= b.of(m) ? 1 : 0;
                case "=" -> m -> a.of(m) == b.of(m) ? 1 : 0;
                case ">=" -> m -> a.of(m) >= b.of(m) ? 1 : 0;
                default -> m -> a.of(m) > b.of(m) ? 1 : 0;
            };
        }

        Value sum() {
            Value all = term();
            while (true) {
                Value a = all;
                if (is("+")) {
                    Value b = term();
                    all = m -> a.of(m) + b.of(m);
                } else if (is("-")) {
                    Value b = term();
                    all = m -> a.of(m) - b.of(m);
                } else {
                    return all;
                }
            }
        }

        Value term() {
            Value all = value();
            while (true) {
                Value a = all;
                if (is("*")) {
                    Value b = value();
                    all = m -> a.of(m) * b.of(m);
                } else if (is("/")) {
                    Value b = value();
                    all = m -> b.of(m) == 0 ? 0 : a.of(m) / b.of(m);
                } else if (is("%")) {
                    Value b = value();
                    all = m -> b.of(m) == 0 ? 0 : a.of(m) % b.of(m);
                } else {
                    return all;
                }
            }
        }

        private static final Map<String, Function<Moment, Integer>> WORDS = new HashMap<>();

        static {
            WORDS.put("spider", m -> m.number);
            WORDS.put("person", m -> m.spider.who);
            WORDS.put("carries", m -> m.state.told.spiders.get(m.number)[1]);
            WORDS.put("glad", m -> m.state.people.get(m.spider.who).size());
            WORDS.put("own", m -> PlainModel.of(m.state.people.get(m.spider.who), m.spider.who));
            WORDS.put("hedge", m -> m.state.hedge.size());
            WORDS.put("built", m -> m.state.built);
            WORDS.put("need", m -> m.state.built == m.state.told.works.size() ? 0 : m.state.told.works.get(m.state.built));
            WORDS.put("with", m -> (int) m.state.spiders.stream()
                    .filter(s -> s.where.equals("ON") && s.who == m.spider.who).count() - 1);
            WORDS.put("lying", m -> Integer.bitCount(m.state.bits()));
            WORDS.put("day", m -> m.state.day);
        }

        Value value() {
            String token = peek();
            boolean isNumber = !token.isEmpty() && token.charAt(0) >= '0' && token.charAt(0) <= '9';
            if (!isNumber && !WORDS.containsKey(token)) {
                throw fault(0);
            }
            if (isNumber && token.length() > 5) {
                throw fault(1);
            }
            if (values == 60) {
                throw fault(3);
            }
            values++;
            is(token);
            if (isNumber) {
                long n = Long.parseLong(token);
                return m -> n;
            }
            Function<Moment, Integer> word = WORDS.get(token);
            return m -> word.apply(m);
        }
    }

    private record Image(State state, int force, int x, List<int[]> notes) {
    }

    private final StringBuilder tape = new StringBuilder();
    private State now = new State(new Told());
    private final List<List<Clause>> rules = new ArrayList<>();
    private int force = -1;
    private int x;
    private List<int[]> notes = new ArrayList<>();
    private final Deque<State> acts = new ArrayDeque<>();
    private final Image[] images = new Image[4];

    private boolean told() {
        return now.told.far > 0;
    }

    private boolean isPerson(int p) {
        return p >= 0 && p < now.people.size();
    }

    private boolean isSpider(int s) {
        return s >= 0 && s < now.spiders.size();
    }

    private static boolean in(int v, int least, int most) {
        return v >= least && v <= most;
    }

    private List<Clause> inForce() {
        return force < 0 ? null : rules.get(force);
    }

    private void act() {
        acts.addLast(now.copy());
        if (acts.size() > 20) {
            acts.removeFirst();
        }
    }

    int feed(int a, int b, int c, int d, int e) {
        if (tape.length() + 20 > 400) {
            return -1;
        }
        for (int n : new int[] {a, b, c, d, e}) {
            tape.append((char) (n >>> 24)).append((char) (n >>> 16 & 255)).append((char) (n >>> 8 & 255)).append((char) (n & 255));
        }
        return tape.length();
    }

    int end(int n) {
        if (!in(n, 0, tape.length())) {
            return -1;
        }
        tape.setLength(n);
        return n;
    }

    int field() {
        String text = tape.toString();
        tape.setLength(0);
        try {
            now = new State(new Reader(text).field());
        } catch (Fault f) {
            return -2 - f.number;
        }
        notes.clear();
        acts.clear();
        return now.people.size();
    }

    int rule() {
        if (rules.size() == 6) {
            return -1;
        }
        String text = tape.toString();
        tape.setLength(0);
        try {
            rules.add(new Reader(text).rule());
        } catch (Fault f) {
            return -2 - f.number;
        }
        return rules.size() - 1;
    }

    int force(int rule) {
        if (!in(rule, -1, rules.size() - 1)) {
            return -2;
        }
        int was = force;
        force = rule;
        return was;
    }

    int person(int p, int what) {
        if (!isPerson(p) || !in(what, 0, 6)) {
            return -1;
        }
        return what == 0 ? now.people.get(p).size() : what == 1 ? (now.lies[p] ? 1 : 0) : of(now.people.get(p), what - 2);
    }

    int spider(int s, int what) {
        if (!isSpider(s) || !in(what, 0, 4)) {
            return -2;
        }
        Spider spider = now.spiders.get(s);
        return switch (what) {
            case 0 -> now.told.spiders.get(s)[1];
            case 1 -> List.of("ON", "OUT", "BACK").indexOf(spider.where);
            case 2 -> spider.where.equals("OUT") ? -1 : spider.who;
            case 3 -> spider.where.equals("ON") ? 0 : spider.left;
            default -> spider.has.size();
        };
    }

    int inHedge(int p) {
        return isPerson(p) ? of(now.hedge, p) : -1;
    }

    int work(int w) {
        return in(w, 0, now.told.works.size() - 1) ? now.told.works.get(w) : -1;
    }

    int day() {
        if (!told() || now.day == 999) {
            return -1;
        }
        act();
        return now.day(inForce());
    }

    int lie(int p) {
        if (!isPerson(p)) {
            return -1;
        }
        act();
        now.lies[p] = !now.lies[p];
        return now.bits();
    }

    int cheer(int p, int much) {
        if (!isPerson(p) || !in(much, 1, 9)) {
            return -1;
        }
        act();
        for (int i = 0; i < much && of(now.people.get(p), p) < 99; i++) {
            now.people.get(p).add(p);
        }
        return of(now.people.get(p), p);
    }

    int give(int one, int other, int whose) {
        if (!isPerson(one) || !isPerson(other) || !isPerson(whose) || one == other || !now.people.get(one).contains(whose)) {
            return -1;
        }
        act();
        now.people.get(one).remove(Integer.valueOf(whose));
        now.people.get(other).add(whose);
        return of(now.people.get(other), whose);
    }

    int brush(int s, int p) {
        if (!isSpider(s) || !isPerson(p) || !now.spiders.get(s).where.equals("ON") || now.spiders.get(s).who == p) {
            return -1;
        }
        act();
        int was = now.spiders.get(s).who;
        now.spiders.get(s).who = p;
        return was;
    }

    int undo() {
        if (acts.isEmpty()) {
            return -1;
        }
        now = acts.removeLast();
        return acts.size();
    }

    int ahead(int p, int n, int what) {
        if (!told() || !in(n, 0, 100) || !in(what, 0, 3) || what <= 1 && !isPerson(p)) {
            return -1;
        }
        State then = now.copy().days(n, inForce());
        return switch (what) {
            case 0 -> then.people.get(p).size();
            case 1 -> of(then.people.get(p), p);
            case 2 -> then.hedge.size();
            default -> then.built;
        };
    }

    int made(int k) {
        if (!told() || !in(k, 1, 5)) {
            return -1;
        }
        for (int d = now.day; d < now.day + 200; d++) {
            if (now.copy().days(d - now.day + 1, inForce()).built >= k) {
                return d;
            }
        }
        return -2;
    }

    int even(int p) {
        if (!isPerson(p)) {
            return -1;
        }
        State then = now.copy();
        for (int d = now.day + 1; d <= now.day + 200; d++) {
            then.day(inForce());
            if (then.people.get(p).size() == now.told.people.get(p)) {
                return d;
            }
        }
        return -2;
    }

    int home(int s, int what) {
        if (!isSpider(s) || !in(what, 0, 1)) {
            return -1;
        }
        for (int d = now.day; d < now.day + 100; d++) {
            Spider spider = now.copy().days(d - now.day, inForce()).spiders.get(s);
            if (spider.where.equals("ON")) {
                return what == 0 ? d : spider.who;
            }
        }
        return -2;
    }

    int lowest(int p, int n, int what) {
        if (!isPerson(p) || !in(n, 1, 100) || !in(what, 0, 1)) {
            return -1;
        }
        List<Integer> behind = new ArrayList<>();
        State then = now.copy();
        for (int i = 0; i < n; i++) {
            then.day(inForce());
            behind.add(then.people.get(p).size());
        }
        int least = behind.stream().mapToInt(i -> i).min().getAsInt();
        return what == 0 ? least : now.day + behind.indexOf(least);
    }

    int lying(int n, int what) {
        if (!told() || !in(n, 1, 40) || !in(what, 0, 1)) {
            return -1;
        }
        int[] best = null;
        for (int set = 0; set < 1 << now.people.size(); set++) {
            State then = now.copy();
            for (int p = 0; p < 5; p++) {
                then.lies[p] = (set >> p) % 2 == 1;
            }
            int[] one = {-then.days(n, inForce()).all(), Integer.bitCount(set), set};
            if (best == null || Arrays.compare(one, best) < 0) {
                best = one;
            }
        }
        return what == 0 ? best[2] : -best[0];
    }

    int had(int p, int n, int much, int what) {
        if (!isPerson(p) || !in(n, 1, 40) || !in(much, 0, 200) || !in(what, 0, 1)) {
            return -1;
        }
        List<Integer> can = new ArrayList<>();
        for (int v = 0; v <= 60; v++) {
            State then = now.copy();
            then.people.get(p).removeIf(o -> o == p);
            for (int i = 0; i < v; i++) {
                then.people.get(p).add(p);
            }
            if (then.days(n, inForce()).people.get(p).size() == much) {
                can.add(v);
            }
        }
        return what == 0 ? can.size() : can.isEmpty() ? -2 : can.get(0);
    }

    int brushed(int s, int n, int what) {
        if (!isSpider(s) || !in(n, 1, 40) || !in(what, 0, 2) || !now.spiders.get(s).where.equals("ON")) {
            return -1;
        }
        int[] best = null;
        for (int p = 0; p < now.people.size(); p++) {
            State then = now.copy();
            then.spiders.get(s).who = p;
            then.days(n, inForce());
            int[] one = {-then.built, -then.hedge.size(), p == now.spiders.get(s).who ? 0 : 1, p};
            if (best == null || Arrays.compare(one, best) < 0) {
                best = one;
            }
        }
        return what == 0 ? best[3] : what == 1 ? -best[0] : -best[1];
    }

    int skip(int load, int what) {
        if (!told() || !in(load, 0, 300) || !in(what, 0, 1)) {
            return -1;
        }
        int[] best = {0, 0};
        for (int set = 0; set < 32; set++) {
            int needs = 0;
            boolean can = true;
            for (int w = 0; w < 5; w++) {
                if ((set >> w) % 2 == 1) {
                    can &= w >= now.built && w < now.told.works.size();
                    needs += w < now.told.works.size() ? now.told.works.get(w) : 0;
                }
            }
            if (can && needs <= load && needs > best[0]) {
                best = new int[] {needs, set};
            }
        }
        return best[what];
    }

    int owed(int what) {
        if (!told() || !in(what, 0, 1)) {
            return -1;
        }
        int n = now.people.size();
        int all = 0;
        int[] net = new int[n];
        for (int a = 0; a < n; a++) {
            for (int b = a + 1; b < n; b++) {
                int aHasOfB = of(now.people.get(a), b);
                int bHasOfA = of(now.people.get(b), a);
                int off = Math.min(aHasOfB, bHasOfA);
                all += aHasOfB - off + bHasOfA - off;
                net[b] += aHasOfB - off;
                net[a] -= aHasOfB - off;
                net[a] += bHasOfA - off;
                net[b] -= bHasOfA - off;
            }
        }
        if (what == 0) {
            return all;
        }
        int best = -2;
        for (int p = n - 1; p >= 0; p--) {
            if (best < 0 || net[p] >= net[best]) {
                best = p;
            }
        }
        return best;
    }

    int rests(int one, int other, int n, int what) {
        if (!isPerson(one) || !isPerson(other) || one == other || !in(n, 1, 20) || !in(what, 0, 2)) {
            return -1;
        }
        int[][][] gain = new int[2][2][];
        for (int a = 0; a < 2; a++) {
            for (int b = 0; b < 2; b++) {
                State then = now.copy();
                then.lies[one] = a == 1;
                then.lies[other] = b == 1;
                then.days(n, inForce());
                gain[a][b] = new int[] {then.people.get(one).size() + 2 * of(then.people.get(one), one),
                        then.people.get(other).size() + 2 * of(then.people.get(other), other)};
            }
        }
        List<int[]> rests = new ArrayList<>();
        for (int a = 0; a < 2; a++) {
            for (int b = 0; b < 2; b++) {
                if (gain[1 - a][b][0] <= gain[a][b][0] && gain[a][1 - b][1] <= gain[a][b][1]) {
                    rests.add(new int[] {a, b});
                }
            }
        }
        return what == 0 ? rests.size() : rests.isEmpty() ? -2 : rests.get(0)[what - 1];
    }

    int ring(int what) {
        if (!told() || !in(what, 0, 1)) {
            return -1;
        }
        List<String> begins = new ArrayList<>();
        State then = now.copy();
        for (int i = 0; i <= 60; i++) {
            StringBuilder b = new StringBuilder();
            then.people.forEach(has -> b.append(has.size()).append(' '));
            for (Spider s : then.spiders) {
                b.append(s.where).append(s.where.equals("OUT") ? "" : s.who).append('/')
                        .append(s.where.equals("ON") ? 0 : s.left).append(' ');
            }
            begins.add(b.toString());
            then.day(inForce());
        }
        for (int i = 0; i < 60; i++) {
            int j = begins.subList(i + 1, 61).indexOf(begins.get(i));
            if (j >= 0) {
                return what == 0 ? now.day + i : j + 1;
            }
        }
        return -2;
    }

    int pence(int much, int p) {
        if (!in(much, 0, 9999) || !isPerson(p)) {
            return -1;
        }
        int all = now.all();
        if (all == 0) {
            return 0;
        }
        int n = now.people.size();
        int[] part = new int[n];
        int left = much;
        List<Integer> order = new ArrayList<>();
        for (int q = 0; q < n; q++) {
            part[q] = much * now.people.get(q).size() / all;
            left -= part[q];
            order.add(q);
        }
        order.sort((a, b) -> much * now.people.get(b).size() % all - much * now.people.get(a).size() % all);
        for (int i = 0; i < left; i++) {
            part[order.get(i)]++;
        }
        return part[p];
    }

    int note(int n, int p, int many) {
        if (n == -1) {
            notes.clear();
            return 0;
        }
        if (!in(n, 0, 60) || !isPerson(p) || !in(many, 0, 300) || notes.size() == 10) {
            return -2;
        }
        notes.add(new int[] {n, p, many});
        return notes.size();
    }

    private List<Integer> suspects() {
        List<Integer> so = new ArrayList<>();
        for (int r = -1; r < rules.size(); r++) {
            boolean all = true;
            for (int[] note : notes) {
                State then = new State(now.told).days(note[0], r < 0 ? null : rules.get(r));
                all &= then.people.get(note[1]).size() == note[2];
            }
            if (all) {
                so.add(r);
            }
        }
        return so;
    }

    int ruled(int what) {
        if (!told() || !in(what, 0, 1)) {
            return -3;
        }
        List<Integer> so = suspects();
        return what == 0 ? so.size() : so.isEmpty() ? -2 : so.get(0);
    }

    int look(int n, int what) {
        if (!told() || !in(n, 0, 60) || !in(what, 0, 1)) {
            return -1;
        }
        List<Integer> so = suspects();
        int[] best = {-2, -2};
        for (int p = 0; p < now.people.size() && !so.isEmpty(); p++) {
            Map<Integer, Integer> alike = new HashMap<>();
            for (int r : so) {
                alike.merge(new State(now.told).days(n, r < 0 ? null : rules.get(r)).people.get(p).size(), 1, Integer::sum);
            }
            int most = alike.values().stream().mapToInt(i -> i).max().getAsInt();
            if (best[0] == -2 || most < best[1]) {
                best = new int[] {p, most};
            }
        }
        return best[what];
    }

    int seed(int to) {
        if (to < 0) {
            return -1;
        }
        int was = x;
        x = to;
        return was;
    }

    int breezes(int m, int n, int p, int what) {
        if (!told() || !in(m, 1, 10) || !in(n, 1, 60) || !in(p, 0, 100) || !in(what, 0, 1)) {
            return -1;
        }
        long[] y = {x};
        int[] sums = new int[2];
        for (int i = 0; i < m; i++) {
            State then = now.copy();
            for (int d = 0; d < n; d++) {
                if (draw(y) % 100 < p && !then.spiders.isEmpty()) {
                    Spider s = then.spiders.get((int) (draw(y) % then.spiders.size()));
                    if (s.where.equals("ON")) {
                        s.who = (s.who + 1) % then.people.size();
                    }
                }
                then.day(inForce());
            }
            sums[0] += then.all();
            sums[1] += then.built;
        }
        return sums[what];
    }

    private static long draw(long[] y) {
        y[0] = (y[0] * 1103515245L + 12345L) % 2147483648L;
        return y[0] / 65536L;
    }

    int count(int what) {
        int[] all = {now.told.far, now.people.size(), now.spiders.size(), now.told.works.size(), rules.size(), force, now.day,
            now.all(), now.hedge.size(), now.built, now.bits(), notes.size(), acts.size(), x, tape.length()};
        return in(what, 0, 14) ? all[what] : -1;
    }

    int image(int k) {
        if (!in(k, 0, 3)) {
            return -1;
        }
        images[k] = new Image(now.copy(), force, x, new ArrayList<>(notes));
        return now.day;
    }

    int back(int k) {
        if (!in(k, 0, 3) || images[k] == null) {
            return -1;
        }
        now = images[k].state.copy();
        force = images[k].force;
        x = images[k].x;
        notes = new ArrayList<>(images[k].notes);
        acts.clear();
        return now.day;
    }
}
