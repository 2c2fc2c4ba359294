/** Promises 12 to 18: sights, shadows, their speeds, balloons and a light. */
public final class SpeedsTest {
    private static final int MAX = Integer.MAX_VALUE;
    private static final int MIN = Integer.MIN_VALUE;

    public static void main(String[] args) {
        sight();
        shadow();
        speed();
        speedSpans();
        shade();
        agree();
        agreeAtTheEnds();
        agreeWithSlip();
        agreeAtTheLimits();
        balloon();
        light();
        Due.end();
    }

    private static void sight() {
        CloudOffice x = new CloudOffice();
        int[][] bad = {{-1, 0, 0, 0}, {8, 0, 0, 0}, {0, -1, 0, 0}, {0, 1440, 0, 0}, {0, 0, 20001, 0}, {0, 0, -20001, 0},
            {0, 0, 0, 20001}, {0, 0, 0, -20001}, {MAX, MAX, MAX, MAX}, {MIN, MIN, MIN, MIN}};
        for (int[] b : bad) {
            Due.is("bad sight", x.sight(b[0], b[1], b[2], b[3]), CloudOffice.BAD);
        }
        for (int i = 0; i < 40; i++) {
            Due.is("sight", x.sight(i % 8, i % 2 == 0 ? 0 : 1439, -20000, 20000), i);
        }
        long before = x.digest();
        Due.is("a sight too many", x.sight(0, 0, 0, 0), CloudOffice.FULL);
        Due.is("BAD is ahead of FULL", x.sight(8, 0, 0, 0), CloudOffice.BAD);
        Due.is("refused sights change nothing", x.digest(), before);
    }

    private static void shadow() {
        CloudOffice x = new CloudOffice();
        int[][] bad = {{-1, 0, 0, 0}, {8, 0, 0, 0}, {0, -1, 0, 0}, {0, 1440, 0, 0}, {0, 0, 1000001, 0},
            {0, 0, -1000001, 0}, {0, 0, 0, -1}, {0, 0, 0, 10001}, {MAX, MAX, MAX, MAX}, {MIN, MIN, MIN, MIN}};
        for (int[] b : bad) {
            Due.is("bad shadow", x.shadow(b[0], b[1], b[2], b[3]), CloudOffice.BAD);
        }
        for (int i = 0; i < 40; i++) {
            Due.is("shadow", x.shadow(7, 1439, i % 2 == 0 ? 1000000 : -1000000, 10000), i);
        }
        long before = x.digest();
        Due.is("a shadow too many", x.shadow(0, 0, 0, 0), CloudOffice.FULL);
        Due.is("BAD is ahead of FULL", x.shadow(0, 0, 0, -1), CloudOffice.BAD);
        Due.is("refused shadows change nothing", x.digest(), before);
    }

    private static void speed() {
        CloudOffice x = new CloudOffice();
        x.sight(2, 30, 100, -100);
        x.sight(2, 20, -300, -900);
        x.sight(3, 25, 100, -100);
        x.sight(2, 30, 50, -100);
        x.sight(2, 40, 7, 7);
        x.sight(2, 50, 7, -3);
        Due.fraction(x, "500 and 500 in 10 minutes", x.speed(0, 1, 0), 100, 1);
        Due.fraction(x, "the same, told the other way", x.speed(1, 0, 0), 100, 1);
        Due.fraction(x, "700 less 500 in 20 minutes", x.speed(5, 0, 0), 10, 1);
        Due.noFraction(x, "a height is none", x.speed(4, 0, 0), 0, 10, 1);
        Due.noFraction(x, "a height is none, told the other way", x.speed(0, 4, 0), 0, 10, 1);
        Due.noFraction(x, "a height is none", x.speed(0, 4, 1), 0, 10, 1);
        Due.noFraction(x, "a span has no end", x.speed(0, 5, 1), 0, 10, 1);
        Due.noFraction(x, "a span has no end", x.speed(5, 0, 2), 0, 10, 1);
        int[][] bad = {{0, 2, 0}, {0, 3, 0}, {0, 0, 0}, {0, 6, 0}, {6, 0, 0}, {-1, 0, 0}, {0, -1, 0}, {0, 1, -1},
            {0, 1, 3}, {MAX, MIN, 0}, {MIN, MAX, 0}};
        for (int[] b : bad) {
            Due.noFraction(x, "bad speed", x.speed(b[0], b[1], b[2]), CloudOffice.BAD, 10, 1);
        }
        x.sight(2, 60, 1, 0);
        Due.fraction(x, "1000 less 500 in 30 minutes", x.speed(0, 6, 0), 50, 3);
        Due.fraction(x, "the least gap is one", x.speed(6, 0, 0), 50, 3);
    }

    /** All four signs of a lean, less and more the slip: the ends are taken from the gap that carries further. */
    private static void speedSpans() {
        CloudOffice x = new CloudOffice();
        x.base(1000, 100);
        x.sight(0, 0, 0, -1000);
        x.sight(0, 1, 500, -500);
        x.sight(0, 2, -500, -1500);
        // place 0: from -100 by 800 to 100 by 800; 1: from 400 by 1200 to 600 by 800; 2: from -600 by 800 to -400 by 1200
        Due.fraction(x, "lower end", x.speed(0, 1, 1), 625, 3);
        Due.fraction(x, "upper end", x.speed(0, 1, 2), 875, 1);
        Due.fraction(x, "lower end", x.speed(1, 2, 1), -1500, 1);
        Due.fraction(x, "upper end", x.speed(1, 2, 2), -2000, 3);
        Due.fraction(x, "lower end, two minutes", x.speed(2, 0, 1), -875, 2);
        Due.fraction(x, "upper end, two minutes", x.speed(0, 2, 2), -625, 6);
        x.base(1000, 0);
        Due.fraction(x, "without slip the lower end is the speed", x.speed(0, 1, 1), 500, 1);
        Due.fraction(x, "without slip the upper end is the speed", x.speed(0, 1, 2), 500, 1);
        x.base(1000, 500);
        Due.noFraction(x, "no end by so much slip", x.speed(0, 1, 1), 0, 500, 1);
    }

    private static void shade() {
        CloudOffice x = new CloudOffice();
        x.shadow(1, 100, 1000000, 10000);
        x.shadow(1, 97, -1000000, 7000);
        x.shadow(2, 90, 0, 0);
        x.shadow(1, 100, 5, 0);
        Due.fraction(x, "2000000 in 3 minutes", x.shade(0, 1, 0), 2000000, 3);
        Due.fraction(x, "lower end", x.shade(1, 0, 1), 661000, 1);
        Due.fraction(x, "upper end", x.shade(0, 1, 2), 2017000, 3);
        int[][] bad = {{0, 2, 0}, {0, 3, 0}, {1, 1, 0}, {0, 4, 0}, {-1, 1, 0}, {0, 1, 3}, {0, 1, -1}, {MIN, MAX, 0}};
        for (int[] b : bad) {
            Due.noFraction(x, "bad shade", x.shade(b[0], b[1], b[2]), CloudOffice.BAD, 2017000, 3);
        }
    }

    private static void agree() {
        CloudOffice x = new CloudOffice();
        x.sight(1, 0, 0, -1000);
        x.sight(1, 10, 100, -900);
        x.sight(1, 20, 5, -5);
        x.sight(2, 5, 0, -1000);
        x.shadow(1, 0, 0, 0);
        x.shadow(1, 10, 100, 0);
        x.shadow(1, 20, 1000, 0);
        x.shadow(2, 5, 0, 0);
        x.shadow(2, 9, 0, 0);
        Due.is("agree", x.agree(0, 1, 0, 1), 1);
        Due.is("agree, the other way", x.agree(1, 0, 1, 0), 1);
        Due.is("do not agree", x.agree(0, 1, 0, 2), 0);
        Due.is("a span is none", x.agree(0, 2, 0, 1), CloudOffice.NO);
        Due.is("BAD is ahead of NO", x.agree(0, 2, 0, 0), CloudOffice.BAD);
        Due.is("of unlike puffs", x.agree(0, 1, 3, 4), CloudOffice.BAD);
        Due.is("of unlike puffs, ahead of NO", x.agree(0, 2, 3, 4), CloudOffice.BAD);
        int[][] bad = {{0, 3, 0, 1}, {0, 0, 0, 1}, {0, 1, 1, 1}, {0, 1, 0, 3}, {4, 1, 0, 1}, {0, 4, 0, 1}, {0, 1, 5, 1},
            {0, 1, 0, 5}, {-1, 1, 0, 1}, {0, 1, -1, 1}, {MAX, MIN, MAX, MIN}};
        for (int[] b : bad) {
            Due.is("bad agree", x.agree(b[0], b[1], b[2], b[3]), CloudOffice.BAD);
        }
        Due.is("THE FRACTION stays", x.part(0), 0);
    }

    private static void agreeAtTheEnds() {
        CloudOffice x = new CloudOffice();
        x.base(1000, 0);
        x.sight(0, 0, 0, -1000);
        x.sight(0, 3, 100, -900);
        x.shadow(0, 0, 0, 0);
        x.shadow(0, 3, 99, 1);
        x.shadow(0, 6, 202, 2);
        x.shadow(0, 9, 302, 1);
        x.shadow(0, 12, 398, 1);
        Due.is("upper end touches", x.agree(0, 1, 0, 1), 1);
        Due.is("lower end touches", x.agree(0, 1, 0, 2), 1);
        Due.is("just above", x.agree(0, 1, 0, 3), 0);
        Due.is("just below", x.agree(0, 1, 0, 4), 0);
    }

    /** The span of the sights is from 625 by 3 to 875, their speed is 500. */
    private static void agreeWithSlip() {
        CloudOffice x = new CloudOffice();
        x.base(1000, 100);
        x.sight(0, 0, 0, -1000);
        x.sight(0, 1, 500, -500);
        x.shadow(0, 0, 0, 0);
        x.shadow(0, 3, 625, 0);
        x.shadow(0, 3, 624, 0);
        x.shadow(0, 1, 875, 0);
        x.shadow(0, 1, 876, 0);
        x.shadow(0, 3, 600, 25);
        x.shadow(0, 1, 5000, 4125);
        x.shadow(0, 1, 500, 10000);
        int[] want = {1, 0, 1, 0, 1, 1, 1};
        for (int i = 0; i < want.length; i++) {
            Due.is("agree by slip, shadow " + (i + 1), x.agree(0, 1, 0, i + 1), want[i]);
        }
    }

    /** The widest numbers that are let in: nothing runs over. */
    private static void agreeAtTheLimits() {
        CloudOffice x = new CloudOffice();
        x.base(100000, 1000);
        x.sight(0, 0, 20000, -20000);
        x.sight(0, 1439, 19999, -20000);
        x.shadow(0, 0, -1000000, 10000);
        x.shadow(0, 1439, 1000000, 10000);
        x.shadow(0, 1439, -1000000, 0);
        Due.is("far apart", x.agree(0, 1, 0, 1), 0);
        Due.is("both nearly still", x.agree(0, 1, 0, 2), 1);
    }

    private static void balloon() {
        CloudOffice x = new CloudOffice();
        Due.is("lower end", x.balloon(100, 5, 7, 0), 570);
        Due.is("upper end", x.balloon(100, 5, 7, 1), 735);
        Due.is("gone at once", x.balloon(1, 0, 1, 0), 0);
        Due.is("gone at once", x.balloon(1, 0, 1, 1), 1);
        Due.is("greatest", x.balloon(1000, 999, 1000, 1), 1999000);
        Due.is("greatest error", x.balloon(1000, 999, 1000, 0), 999);
        int[][] bad = {{0, 0, 1, 0}, {1001, 0, 1, 0}, {5, 5, 1, 0}, {5, -1, 1, 0}, {5, 0, 0, 0}, {5, 0, 1001, 0},
            {5, 0, 1, 2}, {5, 0, 1, -1}, {MIN, 0, 1, 0}, {MAX, MAX, MAX, MAX}};
        for (int[] b : bad) {
            Due.is("bad balloon", x.balloon(b[0], b[1], b[2], b[3]), CloudOffice.BAD);
        }
    }

    private static void light() {
        CloudOffice x = new CloudOffice();
        Due.fraction(x, "light(50, 300)", x.light(50, 300), 500, 3);
        Due.fraction(x, "light(100000, 1)", x.light(100000, 1), 100000000, 1);
        Due.fraction(x, "light(1, 20000)", x.light(1, 20000), 1, 20);
        Due.noFraction(x, "light(1, 0)", x.light(1, 0), 0, 1, 20);
        Due.noFraction(x, "light(1, -20000)", x.light(1, -20000), 0, 1, 20);
        int[][] bad = {{0, 1}, {100001, 1}, {1, 20001}, {1, -20001}, {MAX, MIN}};
        for (int[] b : bad) {
            Due.noFraction(x, "bad light", x.light(b[0], b[1]), CloudOffice.BAD, 1, 20);
        }
    }
}
