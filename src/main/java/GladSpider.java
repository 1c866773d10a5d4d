import java.util.Arrays;

/**
 * Money spiders that run the other way: they take gladness off people, carry it to the hedge,
 * bring it to those who lie still, and works are built of it. What each call answers stands in
 * the document's promises 1 to 37; its words (PERSON, PIECES, ON, OUT, BACK ..) are used here too.
 */
public final class GladSpider {
    public static final int NONE = -1;

    /** What calls answer where there could be something, but there is nothing such. */
    private static final int NOT_THERE = -2;

    private static final int MOST_PEOPLE = 5;
    private static final int MOST_SPIDERS = 6;
    private static final int MOST_WORKS = 5;
    private static final int MOST_RULES = 6;
    private static final int MOST_IMAGES = 4;
    private static final int MOST_NOTES = 10;
    private static final int MOST_ACTS = 20;
    private static final int MOST_BYTES = 400;
    private static final int LAST_DAY = 999;
    private static final int LAST_NOTED_DAY = 60;

    // Where a SPIDER is.
    private static final int ON = 0;
    private static final int OUT = 1;
    private static final int BACK = 2;

    // The kinds of FAULTS.
    private static final int CANNOT_STAND = 0;
    private static final int WRONG_NUMBER = 1;
    private static final int TOO_DEEP = 2;
    private static final int TOO_MANY_VALUES = 3;
    private static final int TOO_MANY_CLAUSES = 4;

    // The kinds of tokens: a sign's kind is its byte, a WORD's is 128 and its place in WORDS.
    private static final int END_OF_TEXT = 1;
    private static final int UNKNOWN = 2;
    private static final int NUMBER = 3;
    private static final int AT_MOST = 4;
    private static final int AT_LEAST = 5;
    private static final int FIELD = 128;
    private static final int WORK = 129;
    private static final int TAKE = 130;
    private static final int IF = 131;
    private static final int OR = 132;
    private static final int AND = 133;
    private static final int NOT = 134;
    private static final int SPIDER = 135;
    private static final int PERSON = 136;
    private static final int CARRIES = 137;
    private static final int GLAD = 138;
    private static final int OWN = 139;
    private static final int HEDGE = 140;
    private static final int BUILT = 141;
    private static final int NEED = 142;
    private static final int WITH = 143;
    private static final int LYING = 144;
    private static final int DAY = 145;
    private static final String WORDS =
            "field work take if or and not spider person carries glad own hedge built need with lying day";
    private static final String SIGNS = ";[]+-*/%<=>";

    private final Tape tape;
    private final FieldReader fieldReader;
    private final RuleReader ruleReader;
    private final Rule[] rules;
    private int ruleCount;
    private int inForce;
    private final Summer now;
    private final Acts acts;
    private final Notes notes;
    private int x;
    private final Image[] images;
    private final Foresight foresight;
    private final Sieve sieve;

    public GladSpider() {
        tape = new Tape();
        fieldReader = new FieldReader(tape);
        ruleReader = new RuleReader(tape);
        rules = new Rule[MOST_RULES];
        inForce = NONE;
        Field nothing = new Field();
        now = new Summer(nothing);
        acts = new Acts(nothing);
        notes = new Notes();
        images = new Image[MOST_IMAGES];
        for (int k = 0; k < MOST_IMAGES; k++) {
            images[k] = new Image(nothing);
        }
        foresight = new Foresight(now);
        sieve = new Sieve(nothing);
    }

    public int feed(int a, int b, int c, int d, int e) {
        if (tape.length > MOST_BYTES - 20) {
            return NONE;
        }
        tape.append(a);
        tape.append(b);
        tape.append(c);
        tape.append(d);
        tape.append(e);
        return tape.length;
    }

    public int end(int n) {
        if (!isIn(n, 0, tape.length)) {
            return NONE;
        }
        tape.length = n;
        return n;
    }

    public int field() {
        Field told = fieldReader.read();
        tape.length = 0;
        if (told == null) {
            return NOT_THERE - tape.fault;
        }
        now.begin(told);
        notes.count = 0;
        acts.count = 0;
        return told.people;
    }

    public int rule() {
        if (ruleCount >= MOST_RULES) {
            return NONE;
        }
        Rule told = ruleReader.read();
        tape.length = 0;
        if (told == null) {
            return NOT_THERE - tape.fault;
        }
        rules[ruleCount] = told;
        ruleCount++;
        return ruleCount - 1;
    }

    public int force(int rule) {
        if (!isIn(rule, NONE, ruleCount - 1)) {
            return NOT_THERE;
        }
        int was = inForce;
        inForce = rule;
        return was;
    }

    public int person(int person, int what) {
        if (!isPerson(person) || !isIn(what, 0, 6)) {
            return NONE;
        }
        if (what == 0) {
            return now.pieces(person);
        }
        if (what == 1) {
            return now.lies(person) ? 1 : 0;
        }
        return now.piecesOf(person, what - 2);
    }

    public int spider(int spider, int what) {
        if (!isSpider(spider)) {
            return NOT_THERE;
        }
        switch (what) {
            case 0: return now.field.carries[spider];
            case 1: return now.place[spider];
            case 2: return now.who[spider];
            case 3: return now.left[spider];
            case 4: return now.loadOf(spider);
            default: return NOT_THERE;
        }
    }

    public int inHedge(int person) {
        return isPerson(person) ? now.hedge[person] : NONE;
    }

    public int work(int work) {
        return isIn(work, 0, now.field.works - 1) ? now.field.needs[work] : NONE;
    }

    public int day() {
        if (!isTold() || now.day >= LAST_DAY) {
            return NONE;
        }
        acts.keep(now);
        return now.oneDay(ruleInForce());
    }

    public int lie(int person) {
        if (!isPerson(person)) {
            return NONE;
        }
        acts.keep(now);
        now.lying ^= 1 << person;
        return now.lying;
    }

    public int cheer(int person, int much) {
        if (!isPerson(person) || !isIn(much, 1, 9)) {
            return NONE;
        }
        acts.keep(now);
        int had = now.piecesOf(person, person);
        now.setPiecesOf(person, person, Math.max(had, Math.min(had + much, 99)));
        return now.piecesOf(person, person);
    }

    public int give(int one, int other, int whose) {
        if (!isPerson(one) || !isPerson(other) || !isPerson(whose) || one == other) {
            return NONE;
        }
        int had = now.piecesOf(one, whose);
        if (had == 0) {
            return NONE;
        }
        acts.keep(now);
        now.setPiecesOf(one, whose, had - 1);
        now.setPiecesOf(other, whose, now.piecesOf(other, whose) + 1);
        return now.piecesOf(other, whose);
    }

    public int brush(int spider, int person) {
        if (!isOnSleeve(spider) || !isPerson(person) || now.who[spider] == person) {
            return NONE;
        }
        acts.keep(now);
        int was = now.who[spider];
        now.who[spider] = person;
        return was;
    }

    public int undo() {
        if (acts.count == 0) {
            return NONE;
        }
        acts.takeBack(now);
        return acts.count;
    }

    public int ahead(int person, int n, int what) {
        if (!isTold() || !isIn(n, 0, 100) || !isIn(what, 0, 3) || what < 2 && !isPerson(person)) {
            return NONE;
        }
        Summer then = foresight.after(n, ruleInForce());
        switch (what) {
            case 0: return then.pieces(person);
            case 1: return then.piecesOf(person, person);
            case 2: return then.piecesInHedge();
            default: return then.built;
        }
    }

    public int made(int k) {
        if (!isTold() || !isIn(k, 1, 5)) {
            return NONE;
        }
        return foresight.dayBehindWhichAreBuilt(k, ruleInForce());
    }

    public int even(int person) {
        return isPerson(person) ? foresight.dayAsTold(person, ruleInForce()) : NONE;
    }

    public int home(int spider, int what) {
        if (!isSpider(spider) || !isIn(what, 0, 1)) {
            return NONE;
        }
        return foresight.dayOnSleeve(spider, what, ruleInForce());
    }

    public int lowest(int person, int n, int what) {
        if (!isPerson(person) || !isIn(n, 1, 100) || !isIn(what, 0, 1)) {
            return NONE;
        }
        return foresight.fewest(person, n, what, ruleInForce());
    }

    public int lying(int n, int what) {
        if (!isTold() || !isIn(n, 1, 40) || !isIn(what, 0, 1)) {
            return NONE;
        }
        return foresight.bestLying(n, what, ruleInForce());
    }

    public int had(int person, int n, int much, int what) {
        if (!isPerson(person) || !isIn(n, 1, 40) || !isIn(much, 0, 200) || !isIn(what, 0, 1)) {
            return NONE;
        }
        return foresight.canHaveHad(person, n, much, what, ruleInForce());
    }

    public int brushed(int spider, int n, int what) {
        if (!isOnSleeve(spider) || !isIn(n, 1, 40) || !isIn(what, 0, 2)) {
            return NONE;
        }
        return foresight.bestSleeve(spider, n, what, ruleInForce());
    }

    public int skip(int load, int what) {
        if (!isTold() || !isIn(load, 0, 300) || !isIn(what, 0, 1)) {
            return NONE;
        }
        int set = now.fullestSkip(load);
        return what == 0 ? now.needsOf(set) : set;
    }

    public int owed(int what) {
        if (!isTold() || !isIn(what, 0, 1)) {
            return NONE;
        }
        return what == 0 ? now.leftToBeGiven() : now.mostToBeGiven();
    }

    public int rests(int one, int other, int n, int what) {
        if (!isPerson(one) || !isPerson(other) || one == other || !isIn(n, 1, 20) || !isIn(what, 0, 2)) {
            return NONE;
        }
        return foresight.restsOfTwo(one, other, n, what, ruleInForce());
    }

    public int ring(int what) {
        if (!isTold() || !isIn(what, 0, 1)) {
            return NONE;
        }
        return foresight.ringOfDays(what, ruleInForce());
    }

    public int pence(int much, int person) {
        if (!isIn(much, 0, 9999) || !isPerson(person)) {
            return NONE;
        }
        return now.penceOf(much, person);
    }

    public int note(int n, int person, int many) {
        if (n == NONE) {
            notes.count = 0;
            return 0;
        }
        if (!isIn(n, 0, LAST_NOTED_DAY) || !isPerson(person) || !isIn(many, 0, 300)
                || notes.count >= MOST_NOTES) {
            return NOT_THERE;
        }
        notes.add(n, person, many);
        return notes.count;
    }

    public int ruled(int what) {
        if (!isTold() || !isIn(what, 0, 1)) {
            return -3;
        }
        sieve.sift(now.field, notes, rules, ruleCount, 0);
        return what == 0 ? sieve.howMany() : sieve.first();
    }

    public int look(int n, int what) {
        if (!isTold() || !isIn(n, 0, LAST_NOTED_DAY) || !isIn(what, 0, 1)) {
            return NONE;
        }
        sieve.sift(now.field, notes, rules, ruleCount, n);
        return sieve.bestParting(what);
    }

    public int seed(int x) {
        if (x < 0) {
            return NONE;
        }
        int was = this.x;
        this.x = x;
        return was;
    }

    public int breezes(int m, int n, int p, int what) {
        if (!isTold() || !isIn(m, 1, 10) || !isIn(n, 1, 60) || !isIn(p, 0, 100) || !isIn(what, 0, 1)) {
            return NONE;
        }
        foresight.drawBreezes(m, n, p, x, ruleInForce());
        return what == 0 ? foresight.breezePieces : foresight.breezeWorks;
    }

    public int count(int what) {
        switch (what) {
            case 0: return now.field.far;
            case 1: return now.field.people;
            case 2: return now.field.spiders;
            case 3: return now.field.works;
            case 4: return ruleCount;
            case 5: return inForce;
            case 6: return now.day;
            case 7: return now.piecesOfAll();
            case 8: return now.piecesInHedge();
            case 9: return now.built;
            case 10: return now.lying;
            case 11: return notes.count;
            case 12: return acts.count;
            case 13: return x;
            case 14: return tape.length;
            default: return NONE;
        }
    }

    public int image(int k) {
        if (!isIn(k, 0, MOST_IMAGES - 1)) {
            return NONE;
        }
        Image image = images[k];
        image.isMade = true;
        image.summer.becomes(now);
        image.notes.become(notes);
        image.inForce = inForce;
        image.x = x;
        return now.day;
    }

    public int back(int k) {
        if (!isIn(k, 0, MOST_IMAGES - 1) || !images[k].isMade) {
            return NONE;
        }
        Image image = images[k];
        now.becomes(image.summer);
        notes.become(image.notes);
        inForce = image.inForce;
        x = image.x;
        acts.count = 0;
        return now.day;
    }

    private static boolean isIn(int value, int least, int most) {
        return value >= least && value <= most;
    }

    private boolean isTold() {
        return now.field.far > 0;
    }

    private boolean isPerson(int person) {
        return isIn(person, 0, now.field.people - 1);
    }

    private boolean isSpider(int spider) {
        return isIn(spider, 0, now.field.spiders - 1);
    }

    private boolean isOnSleeve(int spider) {
        return isSpider(spider) && now.place[spider] == ON;
    }

    /** Null: none is. */
    private Rule ruleInForce() {
        return isIn(inForce, 0, ruleCount - 1) ? rules[inForce] : null;
    }

    /**
     * The TAPE, and its text as tokens. These are made ahead of reading, because what is a token
     * does not hang on where it stands; a reader looks at one after the other.
     */
    private static final class Tape {
        private static final int MOST_DIGITS = 5;

        private final byte[] bytes = new byte[MOST_BYTES];
        private int length;
        private final int[] kinds = new int[MOST_BYTES + 1];
        private final int[] places = new int[MOST_BYTES + 1];
        private final int[] values = new int[MOST_BYTES + 1];
        private int tokenCount;
        private int at;
        private int fault;

        /** Four bytes, the highest first; the caller has seen to it that there is room. */
        void append(int four) {
            for (int shift = 24; shift >= 0 && length < MOST_BYTES; shift -= 8) {
                bytes[length] = (byte) (four >> shift);
                length++;
            }
        }

        void startReading() {
            at = 0;
            fault = 0;
            tokenCount = 0;
            int place = 0;
            for (int n = 0; n < MOST_BYTES && place < length; n++) {
                int behind = behindToken(place);
                if (bytes[place] != ' ') {
                    addToken(kindOf(place, behind), place, numberOf(place, behind));
                }
                place = behind;
            }
            addToken(END_OF_TEXT, length, 0);
        }

        int kind() {
            return kinds[at];
        }

        /** Of a NUMBER; -1, which is never as told, if it has too many digits. */
        int value() {
            return values[at];
        }

        /** Goes on behind the token, if it is of that kind and all was well up to here. */
        boolean passes(int kind) {
            if (fault != 0 || kinds[at] != kind) {
                return false;
            }
            // Nothing stands behind the end, so it is never left.
            if (at < tokenCount - 1) {
                at++;
            }
            return true;
        }

        void refuse(int kindOfFault) {
            if (fault == 0) {
                fault = 1 + 8 * places[at] + kindOfFault;
            }
        }

        private void addToken(int kind, int place, int value) {
            if (tokenCount < kinds.length) {
                kinds[tokenCount] = kind;
                places[tokenCount] = place;
                values[tokenCount] = value;
                tokenCount++;
            }
        }

        private int behindToken(int place) {
            int behind = place + 1;
            if (isLetter(place)) {
                while (behind < length && isLetter(behind)) {
                    behind++;
                }
            } else if (isDigit(place)) {
                while (behind < length && isDigit(behind)) {
                    behind++;
                }
            } else if ((bytes[place] == '<' || bytes[place] == '>') && behind < length && bytes[behind] == '=') {
                behind++;
            }
            return behind;
        }

        private int kindOf(int place, int behind) {
            if (isLetter(place)) {
                return wordKind(place, behind);
            }
            if (isDigit(place)) {
                return NUMBER;
            }
            if (behind - place == 2) {
                return bytes[place] == '<' ? AT_MOST : AT_LEAST;
            }
            char sign = (char) (bytes[place] & 255);
            return SIGNS.indexOf(sign) >= 0 ? sign : UNKNOWN;
        }

        private int numberOf(int place, int behind) {
            if (!isDigit(place)) {
                return 0;
            }
            if (behind - place > MOST_DIGITS) {
                return -1;
            }
            int number = 0;
            for (int i = place; i < behind; i++) {
                number = 10 * number + (bytes[i] - '0');
            }
            return number;
        }

        private int wordKind(int place, int behind) {
            int kind = FIELD;
            int start = 0;
            for (int i = 0; i <= WORDS.length(); i++) {
                if (i == WORDS.length() || WORDS.charAt(i) == ' ') {
                    if (i - start == behind - place && standsAt(place, start, i)) {
                        return kind;
                    }
                    kind++;
                    start = i + 1;
                }
            }
            return UNKNOWN;
        }

        /** Whether the bytes from a place on are those of WORDS from start on to an end. */
        private boolean standsAt(int place, int start, int end) {
            for (int i = start; i < end; i++) {
                if (bytes[place + i - start] != WORDS.charAt(i)) {
                    return false;
                }
            }
            return true;
        }

        private boolean isLetter(int place) {
            return bytes[place] >= 'a' && bytes[place] <= 'z';
        }

        private boolean isDigit(int place) {
            return bytes[place] >= '0' && bytes[place] <= '9';
        }
    }

    /** What the text of a FIELD told; not changed once it is read. Without a FIELD far is 0. */
    private static final class Field {
        private int far;
        private int people;
        private final int[] pieces = new int[MOST_PEOPLE];
        private int spiders;
        private final int[] sleeve = new int[MOST_SPIDERS];
        private final int[] carries = new int[MOST_SPIDERS];
        private int works;
        private final int[] needs = new int[MOST_WORKS];

        /** Whether there is no room for one more clause that begins with the word. */
        boolean isFull(int word) {
            return word == PERSON && people >= MOST_PEOPLE
                    || word == SPIDER && spiders >= MOST_SPIDERS
                    || word == WORK && works >= MOST_WORKS;
        }
    }

    private static final class FieldReader {
        private static final int MOST_CLAUSES = 40;

        private final Tape tape;

        FieldReader(Tape tape) {
            this.tape = tape;
        }

        /** Null: the TAPE tells its fault. */
        Field read() {
            Field field = new Field();
            tape.startReading();
            for (int clause = 0; clause < MOST_CLAUSES; clause++) {
                readClause(field, clause == 0);
                if (tape.passes(END_OF_TEXT)) {
                    return field;
                }
                if (!tape.passes(';')) {
                    tape.refuse(CANNOT_STAND);
                    return null;
                }
            }
            tape.refuse(TOO_MANY_CLAUSES);
            return null;
        }

        private void readClause(Field field, boolean isFirst) {
            int word = tape.kind();
            if (word != FIELD && word != PERSON && word != SPIDER && word != WORK) {
                tape.refuse(CANNOT_STAND);
                return;
            }
            if (isFirst != (word == FIELD) || field.isFull(word)) {
                tape.refuse(TOO_MANY_CLAUSES);
                return;
            }
            tape.passes(word);
            if (word == FIELD) {
                field.far = readNumber(1, 9);
            } else if (word == PERSON) {
                field.pieces[field.people] = readNumber(0, 60);
                field.people++;
            } else if (word == SPIDER) {
                field.sleeve[field.spiders] = readNumber(0, field.people - 1);
                field.carries[field.spiders] = readNumber(1, 9);
                field.spiders++;
            } else {
                field.needs[field.works] = readNumber(1, 60);
                field.works++;
            }
        }

        private int readNumber(int least, int most) {
            if (tape.kind() != NUMBER) {
                tape.refuse(CANNOT_STAND);
                return 0;
            }
            int number = tape.value();
            if (!isIn(number, least, most)) {
                tape.refuse(WRONG_NUMBER);
                return 0;
            }
            tape.passes(NUMBER);
            return number;
        }
    }

    /**
     * Reads a RULE into the steps of a machine with a stack: a step of 0 or above puts that number,
     * one below 0 is a token's kind, negated. Every step comes of a token of its own.
     */
    private static final class RuleReader {
        private static final int MOST_CLAUSES = 12;
        private static final int MOST_DEPTH = 10;

        private final Tape tape;
        private final int[] steps = new int[MOST_BYTES];
        private int stepCount;
        private int valueCount;

        RuleReader(Tape tape) {
            this.tape = tape;
        }

        /** Null: the TAPE tells its fault. */
        Rule read() {
            stepCount = 0;
            valueCount = 0;
            tape.startReading();
            for (int clause = 0; clause < MOST_CLAUSES; clause++) {
                if (!tape.passes(TAKE)) {
                    tape.refuse(CANNOT_STAND);
                    return null;
                }
                readSum();
                if (tape.passes(IF)) {
                    readTest(0);
                    addStep(-IF);
                } else {
                    addStep(-TAKE);
                }
                if (tape.passes(END_OF_TEXT)) {
                    return new Rule(Arrays.copyOf(steps, stepCount));
                }
                if (!tape.passes(';')) {
                    tape.refuse(CANNOT_STAND);
                    return null;
                }
            }
            tape.refuse(tape.kind() == TAKE ? TOO_MANY_CLAUSES : CANNOT_STAND);
            return null;
        }

        private void readTest(int depth) {
            for (int part = 0; part < MOST_BYTES; part++) {
                readFact(depth);
                for (int fact = 1; fact < MOST_BYTES && tape.passes(AND); fact++) {
                    readFact(depth);
                    addStep(-AND);
                }
                if (part > 0) {
                    addStep(-OR);
                }
                if (!tape.passes(OR)) {
                    return;
                }
            }
        }

        private void readFact(int depth) {
            int kind = tape.kind();
            if ((kind == NOT || kind == '[') && depth >= MOST_DEPTH) {
                tape.refuse(TOO_DEEP);
            } else if (tape.passes(NOT)) {
                readFact(depth + 1);
                addStep(-NOT);
            } else if (tape.passes('[')) {
                readTest(depth + 1);
                if (!tape.passes(']')) {
                    tape.refuse(CANNOT_STAND);
                }
            } else {
                readSum();
                int sign = readSign();
                readSum();
                addStep(-sign);
            }
        }

        private int readSign() {
            int sign = tape.kind();
            if (sign != '<' && sign != AT_MOST && sign != '=' && sign != AT_LEAST && sign != '>') {
                tape.refuse(CANNOT_STAND);
            }
            if (valueCount >= Rule.MOST_VALUES) {
                tape.refuse(TOO_MANY_VALUES);
            }
            valueCount++;
            tape.passes(sign);
            return sign;
        }

        private void readSum() {
            int sign = 0;
            for (int term = 0; term < MOST_BYTES; term++) {
                readTerm();
                if (term > 0) {
                    addStep(-sign);
                }
                sign = tape.kind();
                if (!tape.passes('+') && !tape.passes('-')) {
                    return;
                }
            }
        }

        private void readTerm() {
            int sign = 0;
            for (int value = 0; value < MOST_BYTES; value++) {
                readValue();
                if (value > 0) {
                    addStep(-sign);
                }
                sign = tape.kind();
                if (!tape.passes('*') && !tape.passes('/') && !tape.passes('%')) {
                    return;
                }
            }
        }

        private void readValue() {
            int kind = tape.kind();
            if (kind != NUMBER && !isIn(kind, SPIDER, DAY)) {
                tape.refuse(CANNOT_STAND);
            } else if (kind == NUMBER && tape.value() < 0) {
                tape.refuse(WRONG_NUMBER);
            }
            if (valueCount >= Rule.MOST_VALUES) {
                tape.refuse(TOO_MANY_VALUES);
            }
            valueCount++;
            addStep(kind == NUMBER ? tape.value() : -kind);
            tape.passes(kind);
        }

        private void addStep(int step) {
            if (stepCount < steps.length) {
                steps[stepCount] = step;
                stepCount++;
            }
        }
    }

    private static final class Rule {
        /** No more VALUES can be told, so the stack is never higher. */
        private static final int MOST_VALUES = 60;

        private final int[] steps;
        private final long[] stack = new long[MOST_VALUES];

        Rule(int[] steps) {
            this.steps = steps;
        }

        /** The SUM of the first CLAUSE that holds for a SPIDER ON a sleeve; 0 if none does. */
        long sum(Summer summer, int spider) {
            int top = 0;
            for (int i = 0; i < steps.length; i++) {
                int step = steps[i];
                if (step == -TAKE) {
                    return stack[0];
                }
                if (step == -IF) {
                    if (stack[1] != 0) {
                        return stack[0];
                    }
                    top = 0;
                } else if (step >= 0 || step <= -SPIDER) {
                    if (top < MOST_VALUES) {
                        stack[top] = step >= 0 ? step : summer.word(-step, spider);
                        top++;
                    }
                } else if (step == -NOT) {
                    if (top > 0) {
                        stack[top - 1] = 1 - stack[top - 1];
                    }
                } else if (top > 1) {
                    top--;
                    stack[top - 1] = combine(-step, stack[top - 1], stack[top]);
                }
            }
            return 0;
        }

        private static long combine(int sign, long a, long b) {
            switch (sign) {
                case '+': return a + b;
                case '-': return a - b;
                case '*': return a * b;
                case '/': return b == 0 ? 0 : a / b;
                case '%': return b == 0 ? 0 : a % b;
                case '<': return a < b ? 1 : 0;
                case AT_MOST: return a <= b ? 1 : 0;
                case '=': return a == b ? 1 : 0;
                case AT_LEAST: return a >= b ? 1 : 0;
                case '>': return a > b ? 1 : 0;
                case AND: return a & b;
                default: return a | b;
            }
        }
    }

    /** All that DAYS and ACTS change, with the FIELD that it began from. */
    private static final class Summer {
        private Field field;
        /** Five counts for each PERSON: of whom they have how many. */
        private final int[] owns = new int[MOST_PEOPLE * MOST_PEOPLE];
        private final int[] hedge = new int[MOST_PEOPLE];
        private final int[] place = new int[MOST_SPIDERS];
        /** On whose sleeve or to whom; NONE while OUT. */
        private final int[] who = new int[MOST_SPIDERS];
        private final int[] left = new int[MOST_SPIDERS];
        /** Five counts for each SPIDER: of whom it has how many. */
        private final int[] loads = new int[MOST_SPIDERS * MOST_PEOPLE];
        private int lying;
        private int built;
        private int day;

        Summer(Field field) {
            this.field = field;
        }

        void begin(Field told) {
            field = told;
            Arrays.fill(owns, 0);
            Arrays.fill(hedge, 0);
            Arrays.fill(place, ON);
            Arrays.fill(left, 0);
            Arrays.fill(loads, 0);
            for (int p = 0; p < told.people; p++) {
                setPiecesOf(p, p, told.pieces[p]);
            }
            System.arraycopy(told.sleeve, 0, who, 0, MOST_SPIDERS);
            lying = 0;
            built = 0;
            day = 0;
        }

        void becomes(Summer other) {
            field = other.field;
            System.arraycopy(other.owns, 0, owns, 0, owns.length);
            System.arraycopy(other.hedge, 0, hedge, 0, hedge.length);
            System.arraycopy(other.place, 0, place, 0, place.length);
            System.arraycopy(other.who, 0, who, 0, who.length);
            System.arraycopy(other.left, 0, left, 0, left.length);
            System.arraycopy(other.loads, 0, loads, 0, loads.length);
            lying = other.lying;
            built = other.built;
            day = other.day;
        }

        int pieces(int person) {
            return fiveOf(owns, person);
        }

        int piecesOf(int person, int whose) {
            return owns[person * MOST_PEOPLE + whose];
        }

        void setPiecesOf(int person, int whose, int many) {
            owns[person * MOST_PEOPLE + whose] = many;
        }

        int piecesOfAll() {
            int all = 0;
            for (int p = 0; p < field.people; p++) {
                all += pieces(p);
            }
            return all;
        }

        int piecesInHedge() {
            return fiveOf(hedge, 0);
        }

        int loadOf(int spider) {
            return fiveOf(loads, spider);
        }

        boolean lies(int person) {
            return (lying >> person & 1) != 0;
        }

        void setLying(int person, boolean isLying) {
            lying = isLying ? lying | 1 << person : lying & ~(1 << person);
        }

        /** Where a SPIDER is, with whose sleeve, to whom and how many days left, as one number. */
        int whereabouts(int spider) {
            return (place[spider] * 10 + who[spider] + 1) * 10 + left[spider];
        }

        /** What a WORD of a RULE is of a SPIDER ON a sleeve. */
        int word(int word, int spider) {
            int person = who[spider];
            switch (word) {
                case SPIDER: return spider;
                case PERSON: return person;
                case CARRIES: return field.carries[spider];
                case GLAD: return fiveOf(owns, person);
                case OWN: return piecesOf(person, person);
                case HEDGE: return fiveOf(hedge, 0);
                case BUILT: return built;
                case NEED: return built < field.works ? field.needs[built] : 0;
                case WITH: return othersOnSleeve(spider);
                case LYING: return Integer.bitCount(lying);
                default: return day;
            }
        }

        void goOn(int days, Rule rule) {
            for (int n = 0; n < days; n++) {
                oneDay(rule);
            }
        }

        /** How many PIECES came into the hedge. A rule of null: none is IN FORCE. */
        int oneDay(Rule rule) {
            int came = 0;
            for (int s = 0; s < field.spiders; s++) {
                if (place[s] == ON) {
                    mayLeave(s, rule);
                } else {
                    came += walk(s);
                }
            }
            buildNext();
            day++;
            return came;
        }

        private void mayLeave(int spider, Rule rule) {
            int person = who[spider];
            if (!lies(person)) {
                if (pieces(person) == 0 || rule != null && rule.sum(this, spider) <= 0) {
                    return;
                }
                takeUp(spider, owns, person);
            }
            place[spider] = OUT;
            who[spider] = NONE;
            left[spider] = field.far;
        }

        private int walk(int spider) {
            left[spider]--;
            if (left[spider] > 0) {
                return 0;
            }
            if (place[spider] == BACK) {
                layOff(spider, owns, who[spider]);
                place[spider] = ON;
                return 0;
            }
            int came = layOff(spider, hedge, 0);
            turnBack(spider);
            return came;
        }

        private void turnBack(int spider) {
            place[spider] = BACK;
            left[spider] = field.far;
            who[spider] = gladdest();
            if (lying != 0) {
                who[spider] = Integer.numberOfTrailingZeros(lying);
                takeUp(spider, hedge, 0);
            }
        }

        private void buildNext() {
            if (built >= field.works || piecesInHedge() < field.needs[built]) {
                return;
            }
            for (int n = 0; n < field.needs[built]; n++) {
                takeOne(hedge, 0);
            }
            built++;
        }

        private int gladdest() {
            int most = 0;
            for (int p = 1; p < field.people; p++) {
                if (fiveOf(owns, p) > fiveOf(owns, most)) {
                    most = p;
                }
            }
            return most;
        }

        private int othersOnSleeve(int spider) {
            int others = 0;
            for (int s = 0; s < field.spiders; s++) {
                if (s != spider && place[s] == ON && who[s] == who[spider]) {
                    others++;
                }
            }
            return others;
        }

        /** As many as it CARRIES, of the row's n-th five counts. */
        private void takeUp(int spider, int[] row, int n) {
            for (int i = 0; i < field.carries[spider]; i++) {
                int whose = takeOne(row, n);
                if (whose == NONE) {
                    return;
                }
                loads[spider * MOST_PEOPLE + whose]++;
            }
        }

        /** All it has, to the row's n-th five counts: how many. */
        private int layOff(int spider, int[] row, int n) {
            int many = 0;
            for (int whose = 0; whose < MOST_PEOPLE; whose++) {
                int some = loads[spider * MOST_PEOPLE + whose];
                row[n * MOST_PEOPLE + whose] += some;
                loads[spider * MOST_PEOPLE + whose] = 0;
                many += some;
            }
            return many;
        }

        /** One PIECE less of the row's n-th five counts: whose; NONE if there are no more. */
        private static int takeOne(int[] row, int n) {
            int start = n * MOST_PEOPLE;
            int whose = 0;
            for (int p = 1; p < MOST_PEOPLE; p++) {
                if (row[start + p] > row[start + whose]) {
                    whose = p;
                }
            }
            if (row[start + whose] == 0) {
                return NONE;
            }
            row[start + whose]--;
            return whose;
        }

        private static int fiveOf(int[] row, int n) {
            int start = n * MOST_PEOPLE;
            return row[start] + row[start + 1] + row[start + 2] + row[start + 3] + row[start + 4];
        }

        /** The set of WORKS not BUILT that NEEDS most within a load. */
        int fullestSkip(int load) {
            int best = 0;
            for (int set = 1; set < 1 << field.works; set++) {
                boolean hasBuilt = (set & (1 << built) - 1) != 0;
                if (!hasBuilt && needsOf(set) <= load && needsOf(set) > needsOf(best)) {
                    best = set;
                }
            }
            return best;
        }

        int needsOf(int set) {
            int needs = 0;
            for (int w = 0; w < field.works; w++) {
                if ((set >> w & 1) != 0) {
                    needs += field.needs[w];
                }
            }
            return needs;
        }

        /** What one is to give another one, set off; below 0: is to be given. */
        private int debt(int one, int other) {
            return piecesOf(one, other) - piecesOf(other, one);
        }

        int leftToBeGiven() {
            int all = 0;
            for (int one = 0; one < field.people; one++) {
                for (int other = one + 1; other < field.people; other++) {
                    all += Math.abs(debt(one, other));
                }
            }
            return all;
        }

        /** The PERSON. */
        int mostToBeGiven() {
            int best = NOT_THERE;
            int most = 0;
            for (int one = 0; one < field.people; one++) {
                int due = 0;
                for (int other = 0; other < field.people; other++) {
                    due += debt(other, one);
                }
                if (best == NOT_THERE || due > most) {
                    best = one;
                    most = due;
                }
            }
            return best;
        }

        int penceOf(int much, int person) {
            long all = piecesOfAll();
            if (all == 0) {
                return 0;
            }
            long over = much;
            int before = 0;
            long lost = (long) much * pieces(person) % all;
            for (int p = 0; p < field.people; p++) {
                long share = (long) much * pieces(p);
                over -= share / all;
                if (share % all > lost || share % all == lost && p < person) {
                    before++;
                }
            }
            long part = (long) much * pieces(person) / all;
            return (int) (before < over ? part + 1 : part);
        }
    }

    /** The last ACTS, as what was ahead of each. */
    private static final class Acts {
        private final Summer[] before = new Summer[MOST_ACTS];
        private int count;
        private int next;

        Acts(Field nothing) {
            for (int i = 0; i < MOST_ACTS; i++) {
                before[i] = new Summer(nothing);
            }
        }

        void keep(Summer now) {
            before[next].becomes(now);
            next = (next + 1) % MOST_ACTS;
            count = Math.min(count + 1, MOST_ACTS);
        }

        void takeBack(Summer now) {
            if (count > 0) {
                next = (next + MOST_ACTS - 1) % MOST_ACTS;
                count--;
                now.becomes(before[next]);
            }
        }
    }

    private static final class Notes {
        private int count;
        private final int[] days = new int[MOST_NOTES];
        private final int[] people = new int[MOST_NOTES];
        private final int[] pieces = new int[MOST_NOTES];

        void add(int day, int person, int many) {
            if (count < MOST_NOTES) {
                days[count] = day;
                people[count] = person;
                pieces[count] = many;
                count++;
            }
        }

        void become(Notes other) {
            count = other.count;
            System.arraycopy(other.days, 0, days, 0, MOST_NOTES);
            System.arraycopy(other.people, 0, people, 0, MOST_NOTES);
            System.arraycopy(other.pieces, 0, pieces, 0, MOST_NOTES);
        }

        /** Whether those of the summer's DAY are so. */
        boolean agree(Summer summer) {
            for (int i = 0; i < count; i++) {
                if (days[i] == summer.day && summer.pieces(people[i]) != pieces[i]) {
                    return false;
                }
            }
            return true;
        }

        int lastDay() {
            int last = 0;
            for (int i = 0; i < count; i++) {
                last = Math.max(last, days[i]);
            }
            return last;
        }
    }

    private static final class Image {
        private boolean isMade;
        private final Summer summer;
        private final Notes notes = new Notes();
        private int inForce;
        private int x;

        Image(Field nothing) {
            summer = new Summer(nothing);
        }
    }

    /** What is asked of DAYS from now on: they are gone through on trial, now stays as it is. */
    private static final class Foresight {
        private static final int RING_DAYS = 60;

        private final Summer now;
        private final Summer trial;
        private final int[] ringPieces = new int[(RING_DAYS + 1) * MOST_PEOPLE];
        private final int[] ringSpiders = new int[(RING_DAYS + 1) * MOST_SPIDERS];
        private final int[] gainsOfOne = new int[4];
        private final int[] gainsOfOther = new int[4];
        private int breezePieces;
        private int breezeWorks;
        private int drawn;

        Foresight(Summer now) {
            this.now = now;
            trial = new Summer(now.field);
        }

        Summer after(int days, Rule rule) {
            trial.becomes(now);
            trial.goOn(days, rule);
            return trial;
        }

        int dayBehindWhichAreBuilt(int many, Rule rule) {
            trial.becomes(now);
            for (int n = 0; n < 200; n++) {
                trial.oneDay(rule);
                if (trial.built >= many) {
                    return now.day + n;
                }
            }
            return NOT_THERE;
        }

        int dayAsTold(int person, Rule rule) {
            trial.becomes(now);
            for (int n = 0; n < 200; n++) {
                trial.oneDay(rule);
                if (trial.pieces(person) == now.field.pieces[person]) {
                    return trial.day;
                }
            }
            return NOT_THERE;
        }

        /** What 0: the DAY, 1: on whose. */
        int dayOnSleeve(int spider, int what, Rule rule) {
            trial.becomes(now);
            for (int n = 0; n < 100; n++) {
                if (trial.place[spider] == ON) {
                    return what == 0 ? trial.day : trial.who[spider];
                }
                trial.oneDay(rule);
            }
            return NOT_THERE;
        }

        /** What 0: how many PIECES, 1: the DAY. */
        int fewest(int person, int days, int what, Rule rule) {
            trial.becomes(now);
            int least = 0;
            int day = NONE;
            for (int n = 0; n < days; n++) {
                trial.oneDay(rule);
                if (n == 0 || trial.pieces(person) < least) {
                    least = trial.pieces(person);
                    day = now.day + n;
                }
            }
            return what == 0 ? least : day;
        }

        /** What 0: the set, 1: how many PIECES. */
        int bestLying(int days, int what, Rule rule) {
            int best = 0;
            int most = NONE;
            for (int set = 0; set < 1 << now.field.people; set++) {
                trial.becomes(now);
                trial.lying = set;
                trial.goOn(days, rule);
                int pieces = trial.piecesOfAll();
                if (pieces > most || pieces == most && Integer.bitCount(set) < Integer.bitCount(best)) {
                    best = set;
                    most = pieces;
                }
            }
            return what == 0 ? best : most;
        }

        /** What 0: how many numbers, 1: the least. */
        int canHaveHad(int person, int days, int much, int what, Rule rule) {
            int many = 0;
            int least = NOT_THERE;
            for (int number = 60; number >= 0; number--) {
                trial.becomes(now);
                trial.setPiecesOf(person, person, number);
                trial.goOn(days, rule);
                if (trial.pieces(person) == much) {
                    many++;
                    least = number;
                }
            }
            return what == 0 ? many : least;
        }

        /** What 0: whose, 1: how many WORKS, 2: how many PIECES. */
        int bestSleeve(int spider, int days, int what, Rule rule) {
            int best = now.who[spider];
            int works = NONE;
            int pieces = NONE;
            for (int n = NONE; n < now.field.people; n++) {
                // Where it is comes first, so that of several it stays there.
                int person = n == NONE ? now.who[spider] : n;
                trial.becomes(now);
                trial.who[spider] = person;
                trial.goOn(days, rule);
                int there = trial.piecesInHedge();
                if (trial.built > works || trial.built == works && there > pieces) {
                    best = person;
                    works = trial.built;
                    pieces = there;
                }
            }
            return what == 0 ? best : what == 1 ? works : pieces;
        }

        /** What 0: how many, 1, 2: the ways of the first. A two of ways is twice the one's and the other's. */
        int restsOfTwo(int one, int other, int days, int what, Rule rule) {
            for (int ways = 0; ways < 4; ways++) {
                trial.becomes(now);
                trial.setLying(one, ways / 2 == 1);
                trial.setLying(other, ways % 2 == 1);
                trial.goOn(days, rule);
                gainsOfOne[ways] = trial.pieces(one) + 2 * trial.piecesOf(one, one);
                gainsOfOther[ways] = trial.pieces(other) + 2 * trial.piecesOf(other, other);
            }
            int many = 0;
            int first = NOT_THERE;
            for (int ways = 3; ways >= 0; ways--) {
                if (gainsOfOne[ways ^ 2] <= gainsOfOne[ways] && gainsOfOther[ways ^ 1] <= gainsOfOther[ways]) {
                    many++;
                    first = ways;
                }
            }
            if (what == 0 || many == 0) {
                return what == 0 ? many : NOT_THERE;
            }
            return what == 1 ? first / 2 : first % 2;
        }

        /** What 0: the DAY, 1: how much later. */
        int ringOfDays(int what, Rule rule) {
            trial.becomes(now);
            for (int n = 0; n <= RING_DAYS; n++) {
                for (int p = 0; p < MOST_PEOPLE; p++) {
                    ringPieces[n * MOST_PEOPLE + p] = trial.pieces(p);
                }
                for (int s = 0; s < MOST_SPIDERS; s++) {
                    ringSpiders[n * MOST_SPIDERS + s] = trial.whereabouts(s);
                }
                trial.oneDay(rule);
            }
            for (int n = 0; n < RING_DAYS; n++) {
                for (int later = n + 1; later <= RING_DAYS; later++) {
                    if (areAlike(ringPieces, MOST_PEOPLE, n, later)
                            && areAlike(ringSpiders, MOST_SPIDERS, n, later)) {
                        return what == 0 ? now.day + n : later - n;
                    }
                }
            }
            return NOT_THERE;
        }

        private static boolean areAlike(int[] row, int width, int one, int other) {
            for (int i = 0; i < width; i++) {
                if (row[one * width + i] != row[other * width + i]) {
                    return false;
                }
            }
            return true;
        }

        void drawBreezes(int times, int days, int below, int x, Rule rule) {
            breezePieces = 0;
            breezeWorks = 0;
            drawn = x;
            for (int m = 0; m < times; m++) {
                trial.becomes(now);
                for (int n = 0; n < days; n++) {
                    if (draw() % 100 < below && now.field.spiders > 0) {
                        blowOn(draw() % now.field.spiders);
                    }
                    trial.oneDay(rule);
                }
                breezePieces += trial.piecesOfAll();
                breezeWorks += trial.built;
            }
        }

        private int draw() {
            // The rest of 2147483648 is the lowest 31 bits, also where the product went round.
            drawn = drawn * 1103515245 + 12345 & 2147483647;
            return drawn / 65536;
        }

        private void blowOn(int spider) {
            if (trial.place[spider] == ON) {
                int next = trial.who[spider] + 1;
                trial.who[spider] = next < trial.field.people ? next : 0;
            }
        }
    }

    /** By which RULES the NOTES are so. Candidate 0 is no RULE, candidate n is RULE n - 1. */
    private static final class Sieve {
        private final Summer trial;
        private final boolean[] fits = new boolean[MOST_RULES + 1];
        private final int[] seen = new int[(MOST_RULES + 1) * MOST_PEOPLE];
        private int candidates;
        private int people;

        Sieve(Field nothing) {
            trial = new Summer(nothing);
        }

        /** Keeps of each candidate whether it fits, and what people have on the DAY looked at. */
        void sift(Field field, Notes notes, Rule[] rules, int ruleCount, int lookDay) {
            candidates = ruleCount + 1;
            people = field.people;
            int last = Math.max(notes.lastDay(), lookDay);
            for (int c = 0; c < candidates; c++) {
                Rule rule = c == 0 ? null : rules[c - 1];
                trial.begin(field);
                fits[c] = true;
                for (int n = 0; n <= last && fits[c]; n++) {
                    fits[c] = notes.agree(trial);
                    if (n == lookDay) {
                        see(c);
                    }
                    trial.oneDay(rule);
                }
            }
        }

        private void see(int candidate) {
            for (int p = 0; p < people; p++) {
                seen[candidate * MOST_PEOPLE + p] = trial.pieces(p);
            }
        }

        int howMany() {
            int many = 0;
            for (int c = 0; c < candidates; c++) {
                if (fits[c]) {
                    many++;
                }
            }
            return many;
        }

        /** The first RULE; NONE for none. */
        int first() {
            for (int c = 0; c < candidates; c++) {
                if (fits[c]) {
                    return c - 1;
                }
            }
            return NOT_THERE;
        }

        /** What 0: the PERSON by whose PIECES they part best, 1: how many are alike at most. */
        int bestParting(int what) {
            int best = NOT_THERE;
            int fewest = NOT_THERE;
            if (howMany() == 0) {
                return NOT_THERE;
            }
            for (int p = 0; p < people; p++) {
                int alike = mostAlike(p);
                if (best == NOT_THERE || alike < fewest) {
                    best = p;
                    fewest = alike;
                }
            }
            return what == 0 ? best : fewest;
        }

        private int mostAlike(int person) {
            int most = 0;
            for (int c = 0; c < candidates; c++) {
                int alike = 0;
                for (int d = 0; d < candidates; d++) {
                    if (fits[c] && fits[d]
                            && seen[c * MOST_PEOPLE + person] == seen[d * MOST_PEOPLE + person]) {
                        alike++;
                    }
                }
                most = Math.max(most, alike);
            }
            return most;
        }
    }
}
