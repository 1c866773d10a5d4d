/** All that an object tells of its state by promises 7 to 10 and 35. */
final class Snapshot {
    private Snapshot() {
    }

    static int[] of(GladSpider g) {
        int[] all = new int[15 + 5 * 7 + 6 * 5 + 5 + 5];
        int n = 0;
        for (int what = 0; what < 15; what++) {
            all[n++] = g.count(what);
        }
        for (int person = 0; person < 5; person++) {
            for (int what = 0; what < 7; what++) {
                all[n++] = g.person(person, what);
            }
            all[n++] = g.inHedge(person);
            all[n++] = g.work(person);
        }
        for (int spider = 0; spider < 6; spider++) {
            for (int what = 0; what < 5; what++) {
                all[n++] = g.spider(spider, what);
            }
        }
        return all;
    }
}
