import java.nio.charset.StandardCharsets;

/** Counts answers that are due, prints those that are not, and feeds texts. */
final class Due {
    private final String name;
    private int passed;
    private int failed;

    Due(String name) {
        this.name = name;
    }

    void due(String call, long got, long want) {
        if (got == want) {
            passed++;
            return;
        }
        failed++;
        System.out.println(name + ": " + call + " answered " + got + ", due is " + want);
    }

    void finish() {
        System.out.println(name + ": " + passed + " passed, " + failed + " failed");
        if (failed > 0 || passed == 0) {
            System.exit(1);
        }
    }

    /** The text alone is on the TAPE then. */
    static void tape(GladSpider g, String text) {
        g.end(0);
        byte[] bytes = text.getBytes(StandardCharsets.ISO_8859_1);
        for (int i = 0; i < bytes.length; i += 20) {
            g.feed(four(bytes, i), four(bytes, i + 4), four(bytes, i + 8), four(bytes, i + 12), four(bytes, i + 16));
        }
        g.end(bytes.length);
    }

    static int four(byte[] bytes, int start) {
        int number = 0;
        for (int i = start; i < start + 4; i++) {
            number = number << 8 | (i < bytes.length ? bytes[i] & 255 : 0);
        }
        return number;
    }

    static int field(GladSpider g, String text) {
        tape(g, text);
        return g.field();
    }

    static int rule(GladSpider g, String text) {
        tape(g, text);
        return g.rule();
    }

    static GladSpider on(String field, String... rules) {
        GladSpider g = new GladSpider();
        field(g, field);
        for (String rule : rules) {
            rule(g, rule);
        }
        return g;
    }

    static void days(GladSpider g, int n) {
        for (int i = 0; i < n; i++) {
            g.day();
        }
    }

    /** What field() and rule() answer to a FAULT. */
    static int fault(int place, int kind) {
        return -2 - (1 + 8 * place + kind);
    }
}
