/** Promises 26 to 31: rows of years, sheets in order, counts and the digest. */
public final class YearsTest {
    private static final int MAX = Integer.MAX_VALUE;
    private static final int MIN = Integer.MIN_VALUE;

    public static void main(String[] args) {
        row();
        guess();
        guessRound();
        under();
        order();
        count();
        digest();
        Due.end();
    }

    private static void row() {
        CloudOffice x = new CloudOffice();
        int[][] bad = {{-1, 0, 0, 0}, {8, 0, 0, 0}, {0, -1, 0, 0}, {0, 24, 0, 0}, {0, 0, -1, 0}, {0, 0, 8, 0},
            {0, 0, 0, -2}, {0, 0, 0, 100001}, {MAX, MAX, MAX, MAX}, {MIN, MIN, MIN, MIN}};
        for (int[] b : bad) {
            Due.is("bad row", x.row(b[0], b[1], b[2], b[3]), CloudOffice.BAD);
        }
        for (int i = 0; i < 200; i++) {
            Due.is("row", x.row(i % 8, i % 24, i % 8, i % 2 == 0 ? -1 : 100000), i);
        }
        long before = x.digest();
        Due.is("a row too many", x.row(0, 0, 0, 0), CloudOffice.FULL);
        Due.is("BAD is ahead of FULL", x.row(0, 0, 0, -2), CloudOffice.BAD);
        Due.is("refused rows change nothing", x.digest(), before);
    }

    private static void guess() {
        CloudOffice x = new CloudOffice();
        x.row(1, 10, 3, -1);
        Due.is("a gap is no guess", x.guess(1, 10, 3, 0), CloudOffice.NONE);
        Due.is("a gap is not counted", x.guess(1, 10, 3, 1), 0);
        Due.is("a gap has no distance", x.guess(1, 10, 3, 2), CloudOffice.NONE);
        x.row(1, 11, 3, 100);
        x.row(1, 10, 4, 101);
        x.row(1, 10, 5, 9999);
        x.row(2, 10, 3, 7777);
        Due.is("100 and 101 by two, cut", x.guess(1, 10, 3, 0), 100);
        Due.is("two rows", x.guess(1, 10, 3, 1), 2);
        Due.is("distance 1", x.guess(1, 10, 3, 2), 1);
        x.row(1, 10, 3, 0);
        Due.is("a height of 0 is one", x.guess(1, 10, 3, 0), 0);
        Due.is("distance 0", x.guess(1, 10, 3, 2), 0);
        int[][] bad = {{-1, 0, 0, 0}, {8, 0, 0, 0}, {0, -1, 0, 0}, {0, 24, 0, 0}, {0, 0, -1, 0}, {0, 0, 8, 0},
            {0, 0, 0, -1}, {0, 0, 0, 3}, {MAX, MIN, MAX, MIN}};
        for (int[] b : bad) {
            Due.is("bad guess", x.guess(b[0], b[1], b[2], b[3]), CloudOffice.BAD);
        }
    }

    private static void guessRound() {
        CloudOffice x = new CloudOffice();
        x.row(0, 0, 0, 5);
        Due.is("12 hours and 4 winds at most", x.guess(0, 12, 4, 2), 16);
        Due.is("23 is 1 from 0", x.guess(0, 23, 0, 2), 1);
        Due.is("13 is 11 from 0", x.guess(0, 13, 0, 2), 11);
        Due.is("wind 7 is 1 from 0", x.guess(0, 0, 7, 2), 1);
        Due.is("wind 5 is 3 from 0", x.guess(0, 0, 5, 2), 3);
        for (int i = 1; i < 200; i++) {
            x.row(0, 0, 0, 100000);
        }
        Due.is("many heights", x.guess(0, 5, 5, 0), (199 * 100000 + 5) / 200);
        Due.is("many rows", x.guess(0, 5, 5, 1), 200);
    }

    private static void under() {
        CloudOffice x = new CloudOffice();
        int[][] bad = {{-1, 0}, {8, 0}, {0, -1}, {0, 8}, {4, 4}, {MAX, MAX}, {MIN, 0}};
        for (int[] b : bad) {
            Due.is("bad note", x.under(b[0], b[1]), CloudOffice.BAD);
        }
        for (int i = 1; i <= 100; i++) {
            Due.is("note", x.under(7, 0), i);
        }
        long before = x.digest();
        Due.is("a note too many", x.under(0, 7), CloudOffice.FULL);
        Due.is("BAD is ahead of FULL", x.under(0, 0), CloudOffice.BAD);
        Due.is("refused notes change nothing", x.digest(), before);
        Due.is("7 is ahead of 0", x.order(0), 1);
        Due.is("no quarrel", x.order(8), 0);
    }

    private static void order() {
        CloudOffice x = new CloudOffice();
        for (int i = 0; i < 8; i++) {
            Due.is("without notes", x.order(i), i);
        }
        Due.is("no quarrel", x.order(8), 0);
        for (int what : new int[] {-1, 9, MAX, MIN}) {
            Due.is("order(" + what + ")", x.order(what), CloudOffice.BAD);
        }
        for (int low = 0; low < 8; low++) {
            for (int high = 0; high < low; high++) {
                x.under(low, high);
            }
        }
        for (int i = 0; i < 8; i++) {
            Due.is("turned round", x.order(i), 7 - i);
        }
        x.under(0, 7);
        Due.is("one against", x.order(8), 1);
        x.under(0, 7);
        x.under(0, 7);
        Due.is("three against, one for", x.order(8), 3);
        CloudOffice y = new CloudOffice();
        y.under(1, 0);
        y.under(0, 1);
        Due.is("of like ones the first", y.order(0), 0);
        Due.is("one quarrels", y.order(8), 1);
        y.under(1, 0);
        Due.is("two say 1", y.order(0), 1);
        Due.is("then 0", y.order(1), 0);
        Due.is("then 2", y.order(2), 2);
    }

    private static CloudOffice oneOfEach() {
        CloudOffice x = new CloudOffice();
        x.base(2000, 6);
        x.rules(200, 3000, 60, 70);
        x.edge(0, -11, 1);
        x.edge(1, 12, 2);
        x.edge(1, 13, 3);
        for (int i = 0; i < 3; i++) {
            x.layer(40 + i);
        }
        for (int i = 0; i < 4; i++) {
            x.sight(4, 500 + i, -6, 7);
        }
        for (int i = 0; i < 5; i++) {
            x.shadow(5, 600 + i, -7, 8);
        }
        for (int i = 0; i < 6; i++) {
            x.span(60, 70 + i, -8);
        }
        for (int i = 0; i < 7; i++) {
            x.pair(3, 4, -9 - i);
        }
        for (int i = 0; i < 8; i++) {
            x.row(2, 20, 3, i - 1);
        }
        for (int i = 0; i < 9; i++) {
            x.under(6, 5);
        }
        x.height(-3, -10, 1);
        return x;
    }

    private static void count() {
        CloudOffice x = oneOfEach();
        for (int what = 0; what <= 8; what++) {
            Due.is("count(" + what + ")", x.count(what), what + 1);
        }
        for (int what : new int[] {-1, 9, MAX, MIN}) {
            Due.is("count(" + what + ")", x.count(what), CloudOffice.BAD);
        }
    }

    private static long mix(long start, long... more) {
        long h = start;
        for (long v : more) {
            h = 31 * h + v;
        }
        return h;
    }

    private static void digest() {
        long h = mix(317, 1, 2, 3, 4, 5, 6, 7, 8, 9);
        h = mix(h, 2000, 6, 200, 3000, 60, 70);
        h = mix(h, -11, 1, 12, 2, 13, 3, 40, 41, 42);
        for (int i = 0; i < 4; i++) {
            h = mix(h, 4, 500 + i, -6, 7);
        }
        for (int i = 0; i < 5; i++) {
            h = mix(h, 5, 600 + i, -7, 8);
        }
        for (int i = 0; i < 6; i++) {
            h = mix(h, 60, 70 + i, -8);
        }
        for (int i = 0; i < 7; i++) {
            h = mix(h, 3, 4, -9 - i);
        }
        for (int i = 0; i < 8; i++) {
            h = mix(h, 2, 20, 3, i - 1);
        }
        for (int i = 0; i < 9; i++) {
            h = mix(h, 6, 5);
        }
        h = mix(h, -6000, 7);
        CloudOffice x = oneOfEach();
        Due.is("digest()", x.digest(), h);
        x.matched(-1);
        x.must(3, -1);
        x.tilted(0);
        x.worst();
        x.bent(3);
        x.guess(2, 0, 0, 0);
        x.order(0);
        x.agree(0, 1, 0, 1);
        Due.is("asking changes nothing", x.digest(), h);
    }
}
