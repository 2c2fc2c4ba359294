/** Promises 19 to 25: spans, layers that must be, tilts, and bent boards. */
public final class LayersTest {
    private static final int MAX = Integer.MAX_VALUE;
    private static final int MIN = Integer.MIN_VALUE;

    public static void main(String[] args) {
        span();
        sweep();
        must();
        mustIsCutTowardZero();
        tilted();
        pair();
        worst();
        bent();
        Due.end();
    }

    private static void span() {
        CloudOffice x = new CloudOffice();
        int[][] bad = {{-1, 5, 0}, {0, 100001, 0}, {6, 5, 0}, {100001, 100001, 0}, {0, 5, 10001}, {0, 5, -10001},
            {MIN, MIN, 0}, {MAX, MAX, 0}};
        for (int[] b : bad) {
            Due.is("bad span", x.span(b[0], b[1], b[2]), CloudOffice.BAD);
        }
        for (int i = 1; i <= 24; i++) {
            Due.is("span", x.span(0, 100000, i % 2 == 0 ? 10000 : -10000), i);
        }
        long before = x.digest();
        Due.is("a span too many", x.span(0, 0, 0), CloudOffice.FULL);
        Due.is("BAD is ahead of FULL", x.span(1, 0, 0), CloudOffice.BAD);
        Due.is("refused spans change nothing", x.digest(), before);
    }

    private static void sweep() {
        CloudOffice x = new CloudOffice();
        Due.is("nothing to sweep", x.sweep(), 0);
        x.span(1, 2, 3);
        x.span(100000, 100000, 3);
        Due.is("two layers", x.must(0, -1), 2);
        Due.is("sweep()", x.sweep(), 2);
        Due.is("none are left", x.count(5), 0);
        Due.is("no layers", x.must(0, -1), 0);
        Due.is("spans come anew", x.span(5, 6, 0), 1);
        Due.is("what was is forgotten", x.must(0, 0), 6);
    }

    private static void must() {
        CloudOffice x = new CloudOffice();
        Due.is("no layers", x.must(0, -1), 0);
        Due.is("no first", x.must(0, 0), CloudOffice.NONE);
        x.span(10, 20, 0);
        x.span(20, 30, 0);
        x.span(21, 30, 0);
        x.span(0, 100, 0);
        x.span(90, 95, 0);
        x.span(95, 99, 0);
        x.span(96, 97, 0);
        Due.is("layers", x.must(0, -1), 4);
        int[] want = {20, 30, 95, 97};
        for (int i = 0; i < want.length; i++) {
            Due.is("the greatest that may be", x.must(0, i), want[i]);
        }
        Due.is("not so many", x.must(0, 4), CloudOffice.NONE);
        Due.is("not so many", x.must(0, MAX), CloudOffice.NONE);
        int[][] bad = {{51, -1}, {-51, -1}, {0, -2}, {0, MIN}, {MAX, 0}, {MIN, 0}};
        for (int[] b : bad) {
            Due.is("bad must", x.must(b[0], b[1]), -2000000);
        }
        Due.is("tilt 50 at x 0", x.must(50, -1), 4);
        x.sweep();
        for (int i = 0; i < 24; i++) {
            x.span(4 * (23 - i), 4 * (23 - i) + 1, 0);
        }
        Due.is("24 layers", x.must(-50, -1), 24);
        Due.is("the last of 24", x.must(0, 23), 93);
        Due.is("no 25th", x.must(0, 24), CloudOffice.NONE);
    }

    private static void mustIsCutTowardZero() {
        CloudOffice x = new CloudOffice();
        x.span(100, 200, 999);
        Due.is("999 by 1000 is 0", x.must(1, 0), 200);
        Due.is("-999 by 1000 is 0", x.must(-1, 0), 200);
        Due.is("1998 by 1000 is 1", x.must(2, 0), 199);
        Due.is("-1998 by 1000 is -1", x.must(-2, 0), 201);
        x.sweep();
        x.span(0, 0, 10000);
        Due.is("brought below 0", x.must(50, 0), -500);
        Due.is("brought up", x.must(-50, 0), 500);
    }

    private static void tilted() {
        CloudOffice x = new CloudOffice();
        Due.is("no spans, no tilt", x.tilted(0), 0);
        Due.is("no spans, no layers", x.tilted(1), 0);
        for (int what : new int[] {-1, 2, MAX, MIN}) {
            Due.is("tilted(" + what + ")", x.tilted(what), -100);
        }
        x.span(100, 110, 0);
        x.span(130, 140, 1000);
        Due.is("the least tilt that joins them", x.tilted(0), 20);
        Due.is("one layer", x.tilted(1), 1);
        x.sweep();
        x.span(100, 110, 0);
        x.span(130, 140, -1000);
        Due.is("the other way", x.tilted(0), -20);
        x.span(60, 69, 500);
        Due.is("-50 joins no third", x.tilted(1), 2);
        Due.is("and the least size is taken", x.tilted(0), -20);
        x.sweep();
        x.span(0, 0, 1000);
        x.span(5, 5, 0);
        x.span(10, 10, 1000);
        Due.is("5 and -5 are alike: above 0", x.tilted(0), 5);
        Due.is("two layers", x.tilted(1), 2);
        x.sweep();
        x.span(0, 0, 0);
        x.span(50, 60, 1000);
        Due.is("tilt 50", x.tilted(0), 50);
        x.sweep();
        x.span(0, 0, 0);
        x.span(51, 60, 1000);
        Due.is("51 would be too much", x.tilted(0), 0);
        Due.is("so two", x.tilted(1), 2);
    }

    private static void pair() {
        CloudOffice x = new CloudOffice();
        int[][] bad = {{-1, 0, 0}, {6, 0, 0}, {0, -1, 0}, {0, 6, 0}, {3, 3, 0}, {0, 1, 2001}, {0, 1, -2001},
            {MAX, MAX, 0}, {MIN, 0, 0}, {0, 1, MIN}};
        for (int[] b : bad) {
            Due.is("bad pair", x.pair(b[0], b[1], b[2]), CloudOffice.BAD);
        }
        for (int i = 1; i <= 40; i++) {
            Due.is("pair", x.pair(0, 5, i % 2 == 0 ? 2000 : -2000), i);
        }
        long before = x.digest();
        Due.is("a pair too many", x.pair(0, 1, 0), CloudOffice.FULL);
        Due.is("BAD is ahead of FULL", x.pair(1, 1, 0), CloudOffice.BAD);
        Due.is("refused pairs change nothing", x.digest(), before);
        Due.is("the greatest worst", x.worst(), 2000);
        Due.is("and nothing bent", x.bent(5), 0);
    }

    private static void worst() {
        CloudOffice x = new CloudOffice();
        Due.is("no pairs", x.worst(), CloudOffice.NONE);
        x.pair(1, 2, 7);
        Due.is("watcher 0 is in none", x.worst(), CloudOffice.NONE);
        x.pair(2, 0, 7);
        Due.is("a chain fits", x.worst(), 0);
        x.pair(1, 0, 15);
        Due.is("1 over three pairs", x.worst(), 1);
        x.pair(4, 3, 0);
        Due.is("3 and 4 are not joined", x.worst(), CloudOffice.NONE);
        x.pair(3, 1, 0);
        Due.is("joined by way of 1", x.worst(), 1);
        x.pair(0, 3, 2000);
        Due.is("2000 less 3 or so is spread over three", x.worst(), 672);
    }

    private static void bent() {
        CloudOffice x = new CloudOffice();
        Due.is("watcher 0 without pairs", x.bent(0), 0);
        Due.is("watcher 1 without pairs", x.bent(1), -200000);
        for (int watcher : new int[] {-1, 6, MAX, MIN}) {
            Due.is("no watcher", x.bent(watcher), -100000);
        }
        x.pair(1, 0, 2000);
        x.pair(2, 1, 2000);
        x.pair(3, 2, 2000);
        x.pair(4, 3, 2000);
        x.pair(5, 4, 2000);
        Due.is("worst of a chain", x.worst(), 0);
        for (int i = 0; i < 6; i++) {
            Due.is("chain", x.bent(i), 2000 * i);
        }
        CloudOffice y = new CloudOffice();
        y.pair(0, 1, 0);
        y.pair(0, 1, 5);
        y.pair(4, 1, 0);
        Due.is("5 is halved upward", y.worst(), 3);
        Due.is("the greatest", y.bent(1), -2);
        Due.is("the greatest, further on", y.bent(4), 1);
        Due.is("in no pair", y.bent(2), -200000);
        y.pair(2, 3, 0);
        Due.is("worst() is NONE", y.bent(1), -200000);
        Due.is("but for watcher 0", y.bent(0), 0);
    }
}
