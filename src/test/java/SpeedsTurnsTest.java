/** Where promises 12 to 18 turn from one answer to another: each sentence with both sides of its turn. */
public final class SpeedsTurnsTest {
    private static final int NO = CloudOffice.NO;

    public static void main(String[] args) {
        numbersAsTheyCome();
        theLaterLessTheEarlier();
        theWholeDay();
        stillAndBackward();
        noHeight();
        noEndOfASpan();
        placesTurnAtNothing();
        leanAndSlipBeyondTheLeans();
        slipIsUsedAtOnce();
        shadowsWithoutAndWithErrors();
        shadowsAtTheirFurthest();
        oneNumberInCommon();
        oneSpanInTheOther();
        agreeTurnsToNo();
        vanishedInTheFirstMinute();
        balloonErrors();
        lightAboveNothing();
        Due.end();
    }

    /** "SIGHTS 0 .. 39, as they come", "SHADOWS 0 .. 39, as they come": also two that are alike in all. */
    private static void numbersAsTheyCome() {
        CloudOffice x = new CloudOffice();
        for (int i = 0; i < 3; i++) {
            Due.is("sight", x.sight(7, 1439, 20000, -20000), i);
            Due.is("shadow", x.shadow(7, 1439, -1000000, 10000), i);
        }
    }

    private static void theLaterLessTheEarlier() {
        CloudOffice x = new CloudOffice();
        x.sight(0, 10, 500, -500);
        x.sight(0, 11, 510, -490);
        x.sight(0, 9, 520, -480);
        x.shadow(0, 10, 500, 1);
        x.shadow(0, 11, 510, 1);
        x.shadow(0, 9, 520, 1);
        int[][] turns = {{0, 1, 10}, {1, 0, 10}, {0, 2, -20}, {2, 0, -20}, {1, 2, -5}, {2, 1, -5}};
        for (int[] turn : turns) {
            Due.fraction(x, "speed " + turn[0] + " " + turn[1], x.speed(turn[0], turn[1], 0), turn[2], 1);
            Due.fraction(x, "shade " + turn[0] + " " + turn[1], x.shade(turn[0], turn[1], 0), turn[2], 1);
        }
    }

    /** Minutes are 0 .. 1439 of one day, and nothing is said of going round it. */
    private static void theWholeDay() {
        CloudOffice x = new CloudOffice();
        x.sight(0, 1439, 500, -500);
        x.sight(0, 0, 0, -1000);
        x.shadow(0, 0, 0, 0);
        x.shadow(0, 1439, 500, 0);
        Due.fraction(x, "speed", x.speed(0, 1, 0), 500, 1439);
        Due.fraction(x, "shade", x.shade(0, 1, 0), 500, 1439);
    }

    private static void stillAndBackward() {
        CloudOffice x = new CloudOffice();
        x.sight(0, 5, 500, -500);
        x.sight(0, 8, 500, -500);
        x.sight(0, 9, 499, -501);
        x.shadow(0, 5, -7, 0);
        x.shadow(0, 8, -7, 0);
        x.shadow(0, 9, -8, 0);
        Due.fraction(x, "a still cloud", x.speed(0, 1, 0), 0, 1);
        Due.fraction(x, "a still shadow", x.shade(0, 1, 0), 0, 1);
        Due.fraction(x, "a cloud that goes back", x.speed(0, 2, 0), -1, 4);
        Due.is("cut down", x.floor(), -1);
        Due.fraction(x, "a shadow that goes back", x.shade(0, 2, 0), -1, 4);
        Due.is("cut down", x.floor(), -1);
    }

    /** "(none, if a HEIGHT is none)": of either SIGHT. */
    private static void noHeight() {
        CloudOffice x = new CloudOffice();
        x.sight(0, 0, 500, -500);
        x.sight(0, 1, 7, 6);
        x.sight(0, 2, 7, 7);
        x.sight(0, 3, 7, 8);
        Due.fraction(x, "d is 1", x.speed(0, 1, 0), 6500, 1);
        Due.noFraction(x, "d is 0", x.speed(0, 2, 0), 0, 6500, 1);
        Due.noFraction(x, "d is 0, turned", x.speed(2, 0, 0), 0, 6500, 1);
        Due.noFraction(x, "d is -1", x.speed(0, 3, 0), 0, 6500, 1);
        Due.noFraction(x, "d is -1, turned", x.speed(3, 0, 0), 0, 6500, 1);
        Due.noFraction(x, "none of both", x.speed(2, 3, 0), 0, 6500, 1);
    }

    /** "none where a SPAN has no end": of either SIGHT, for both ends; the speed itself is there. */
    private static void noEndOfASpan() {
        CloudOffice x = new CloudOffice();
        x.sight(0, 0, 0, -11);
        x.sight(0, 1, 0, -10);
        x.sight(0, 2, 0, -12);
        Due.fraction(x, "d is 11 and 12, lower end", x.speed(0, 2, 1), -3750, 1);
        Due.fraction(x, "d is 11 and 12, upper end", x.speed(0, 2, 2), 3750, 1);
        for (int what = 1; what <= 2; what++) {
            Due.noFraction(x, "the later's d is 10", x.speed(0, 1, what), 0, 3750, 1);
            Due.noFraction(x, "the earlier's d is 10", x.speed(1, 2, what), 0, 3750, 1);
            Due.noFraction(x, "the earlier's d is 10, turned", x.speed(2, 1, what), 0, 3750, 1);
        }
        Due.fraction(x, "the speed itself", x.speed(0, 1, 0), 0, 1);
    }

    /**
     * "from the least to the greatest of: SPAN's ends each times (LEAN less SLIP) and (LEAN and SLIP) by 1000": with d 20
     * and SLIP 5 the SPAN is 1000000 by 30 to 100000. The other sight, 99 minutes later, is from -500 by 99 to 500 by 99.
     */
    private static void placesTurnAtNothing() {
        // the lean; 297 times the least place; 297 times the greatest
        int[][] turns = {{6, 9900, 326700}, {5, 0, 297000}, {4, -29700, 267300}, {0, -148500, 148500}, {-4, -267300, 29700},
            {-5, -297000, 0}, {-6, -326700, -9900}};
        for (int[] turn : turns) {
            CloudOffice x = new CloudOffice();
            x.sight(0, 0, turn[0], turn[0] - 20);
            x.sight(0, 99, 0, -1000);
            long[] low = lowest(-1500 - turn[2], 297 * 99);
            long[] high = lowest(1500 - turn[1], 297 * 99);
            Due.fraction(x, "lean " + turn[0] + ", lower end", x.speed(0, 1, 1), low[0], low[1]);
            Due.fraction(x, "lean " + turn[0] + ", upper end", x.speed(0, 1, 2), high[0], high[1]);
        }
    }

    private static long[] lowest(long above, long below) {
        for (long divisor = below; divisor > 1; divisor--) {
            if (above % divisor == 0 && below % divisor == 0) {
                return new long[] {above / divisor, below / divisor};
            }
        }
        return new long[] {above, below};
    }

    /** A LEAN of 20000 with a SLIP of 1000 is taken as 21000, though no LEAN is told so. */
    private static void leanAndSlipBeyondTheLeans() {
        CloudOffice x = new CloudOffice();
        x.base(100000, 1000);
        x.sight(0, 0, 20000, 17999);
        x.sight(0, 1, -18000, -20000);
        x.sight(0, 2, -17999, -20000);
        x.sight(0, 3, 20000, -20000);
        // from 19000 by 4001 to 21000 by 1, from -18999 by 1 to -16999 by 4001, from 19000 by 42000 to 21000 by 38000
        Due.fraction(x, "lower end", x.speed(0, 3, 1), -44099050000L, 63);
        Due.fraction(x, "the furthest from each other, lower end", x.speed(0, 2, 1), -1999950000L, 1);
        Due.fraction(x, "the furthest from each other, upper end", x.speed(0, 2, 2), -1799950000L, 4001);
        Due.noFraction(x, "d is 2000", x.speed(0, 1, 1), 0, -1799950000L, 4001);
    }

    private static void slipIsUsedAtOnce() {
        CloudOffice x = new CloudOffice();
        x.sight(0, 0, 0, -1000);
        x.sight(0, 1, 100, -900);
        Due.fraction(x, "by SLIP 5", x.speed(0, 1, 1), 890000, 9999);
        x.base(1000, 0);
        Due.fraction(x, "by SLIP 0, lower end", x.speed(0, 1, 1), 100, 1);
        Due.fraction(x, "by SLIP 0, upper end", x.speed(0, 1, 2), 100, 1);
        x.base(1000, 499);
        Due.is("by SLIP 499", x.speed(0, 1, 1), 1);
        x.base(1000, 500);
        Due.is("by SLIP 500", x.speed(0, 1, 1), 0);
        Due.fraction(x, "the speed needs no SLIP", x.speed(0, 1, 0), 100, 1);
    }

    /** "a place with an error": "their SPEED likewise with SPAN". */
    private static void shadowsWithoutAndWithErrors() {
        CloudOffice x = new CloudOffice();
        x.shadow(0, 0, 10, 0);
        x.shadow(0, 2, 20, 0);
        x.shadow(0, 4, 20, 3);
        for (int what = 0; what < 3; what++) {
            Due.fraction(x, "without an error", x.shade(0, 1, what), 5, 1);
        }
        Due.fraction(x, "the later's error, lower end", x.shade(0, 2, 1), 7, 4);
        Due.fraction(x, "the later's error, upper end", x.shade(0, 2, 2), 13, 4);
        Due.fraction(x, "lower end", x.shade(1, 2, 1), -3, 2);
        Due.fraction(x, "upper end", x.shade(2, 1, 2), 3, 2);
        CloudOffice y = new CloudOffice();
        y.shadow(0, 0, 10, 3);
        y.shadow(0, 4, 20, 0);
        Due.fraction(y, "the earlier's error, lower end", y.shade(0, 1, 1), 7, 4);
        Due.fraction(y, "the earlier's error, upper end", y.shade(0, 1, 2), 13, 4);
    }

    private static void shadowsAtTheirFurthest() {
        CloudOffice x = new CloudOffice();
        x.shadow(0, 0, -1000000, 10000);
        x.shadow(0, 1, 1000000, 10000);
        x.shadow(0, 2, -1000000, 10000);
        Due.fraction(x, "upper end", x.shade(0, 1, 2), 2020000, 1);
        Due.fraction(x, "lower end", x.shade(0, 1, 1), 1980000, 1);
        Due.fraction(x, "back, lower end", x.shade(1, 2, 1), -2020000, 1);
        Due.fraction(x, "back, upper end", x.shade(1, 2, 2), -1980000, 1);
    }

    /** "both spans have a number in common": the sights' span is from -1000 by 99 to 1000 by 99. */
    private static void oneNumberInCommon() {
        // the later shadow's place, its error, whether they agree
        int[][] turns = {{1000, 0, 1}, {1001, 0, 0}, {-1000, 0, 1}, {-1001, 0, 0}, {1010, 10, 1}, {1011, 10, 0}, {-1010, 10, 1},
            {-1011, 10, 0}, {11000, 10000, 1}, {11001, 10000, 0}, {0, 0, 1}, {0, 10000, 1}};
        for (int[] turn : turns) {
            CloudOffice x = new CloudOffice();
            x.sight(0, 0, 0, -1000);
            x.sight(0, 1, 0, -1000);
            x.shadow(0, 0, 0, 0);
            x.shadow(0, 99, turn[0], turn[1]);
            Due.is("shadow at " + turn[0] + " with " + turn[1], x.agree(0, 1, 0, 1), turn[2]);
            Due.is("shadow at " + turn[0] + " with " + turn[1] + ", turned", x.agree(1, 0, 1, 0), turn[2]);
        }
    }

    private static void oneSpanInTheOther() {
        CloudOffice x = new CloudOffice();
        x.sight(3, 0, 0, -1000);
        x.sight(3, 1, 100, -900);
        x.shadow(3, 0, 0, 0);
        x.shadow(3, 1, 100, 1);
        x.shadow(3, 2, 200, 10000);
        Due.is("the shadows' in the sights'", x.agree(0, 1, 0, 1), 1);
        Due.is("the sights' in the shadows'", x.agree(0, 1, 0, 2), 1);
        Due.is("THE FRACTION is not touched", x.part(0), 0);
        x.base(1000, 0);
        Due.is("a single number in the shadows'", x.agree(0, 1, 0, 1), 1);
        x.shadow(3, 3, 300, 0);
        Due.is("two single numbers that are one", x.agree(0, 1, 0, 3), 1);
        x.shadow(3, 4, 401, 0);
        Due.is("two single numbers", x.agree(0, 1, 0, 4), 0);
    }

    /** "NO: a SPAN is none": at d 10 and SLIP 5. */
    private static void agreeTurnsToNo() {
        CloudOffice x = new CloudOffice();
        x.sight(0, 0, 0, -11);
        x.sight(0, 1, 0, -11);
        x.sight(0, 2, 0, -10);
        x.sight(0, 3, 0, 0);
        x.shadow(0, 0, 0, 0);
        x.shadow(0, 1, 0, 0);
        Due.is("d is 11", x.agree(0, 1, 0, 1), 1);
        Due.is("the later's d is 10", x.agree(0, 2, 0, 1), NO);
        Due.is("the earlier's d is 10", x.agree(2, 3, 0, 1), NO);
        Due.is("the later's d is 0", x.agree(0, 3, 0, 1), NO);
        x.base(1000, 6);
        Due.is("d is 11, by SLIP 6", x.agree(0, 1, 0, 1), NO);
        x.base(1000, 4);
        Due.is("d is 10, by SLIP 4", x.agree(0, 2, 0, 1), 1);
    }

    /** "it was seen at m - 1, not at m": with m 1 it may have been anywhere from the ground on. */
    private static void vanishedInTheFirstMinute() {
        CloudOffice x = new CloudOffice();
        Due.is("lower end", x.balloon(100, 5, 1, 0), 0);
        Due.is("upper end", x.balloon(100, 5, 1, 1), 105);
        Due.is("in the second minute, lower end", x.balloon(100, 5, 2, 0), 95);
        Due.is("in the second minute, upper end", x.balloon(100, 5, 2, 1), 210);
        Due.is("in the last minute, lower end", x.balloon(1000, 0, 1000, 0), 999000);
        Due.is("in the last minute, upper end", x.balloon(1000, 0, 1000, 1), 1000000);
    }

    /** "that may be off by e (0 .. r less 1)". */
    private static void balloonErrors() {
        CloudOffice x = new CloudOffice();
        int[][] turns = {{1, 0, 4}, {2, 1, 4}, {7, 6, 4}, {1000, 999, 1000}};
        for (int[] t : turns) {
            Due.is("off by " + t[1] + ", lower end", x.balloon(t[0], t[1], t[2], 0), (t[0] - t[1]) * (t[2] - 1));
            Due.is("off by " + t[1] + ", upper end", x.balloon(t[0], t[1], t[2], 1), (t[0] + t[1]) * t[2]);
            Due.is("off by all it rises", x.balloon(t[0], t[0], t[2], 0), CloudOffice.BAD);
            Due.is("off by all it rises", x.balloon(t[0], t[0], t[2], 1), CloudOffice.BAD);
        }
        Due.is("THE FRACTION is not touched", x.part(0), 0);
    }

    /** "its spot at a LEAN above 0 is 1000 w by LEAN high". */
    private static void lightAboveNothing() {
        CloudOffice x = new CloudOffice();
        Due.fraction(x, "a lean of 1", x.light(3, 1), 3000, 1);
        Due.noFraction(x, "a lean of 0", x.light(3, 0), 0, 3000, 1);
        Due.noFraction(x, "a lean of -1", x.light(3, -1), 0, 3000, 1);
        Due.fraction(x, "the lowest spot", x.light(1, 20000), 1, 20);
        Due.is("below 1", x.floor(), 0);
        Due.fraction(x, "the highest spot", x.light(100000, 1), 100000000, 1);
        x.base(10, 1000);
        Due.fraction(x, "neither BASE nor SLIP", x.light(100000, 1), 100000000, 1);
    }
}
