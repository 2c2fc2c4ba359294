/** Where promises 2 to 11 turn from one answer to another: each sentence with both sides of its turn. */
public final class TwoEndsTurnsTest {
    private static final int NONE = CloudOffice.NONE;

    public static void main(String[] args) {
        heightAboveNothing();
        spanWithoutAnEnd();
        noSpanAtAll();
        spanWithoutSlip();
        spanAtTheGreatestSlip();
        placeTakesTheFirstsSign();
        lowestTerms();
        cutDown();
        baseIsUsedAtOnce();
        fromLowToHigh();
        lowAndHighHoldTheWholeFraction();
        unlikeWords();
        nearestLayer();
        heightIsCutForLayers();
        noHeightNoCost();
        aloneAgainstCost();
        noneIsFirst();
        secondsByNumbers();
        eachInOnePairAtMost();
        nothingCosts();
        dearestSky();
        Due.end();
    }

    /** "if d is above 0: THE HEIGHT is 1000 BASE by d". */
    private static void heightAboveNothing() {
        CloudOffice x = new CloudOffice();
        for (int lean : new int[] {-20000, -1, 0, 19999}) {
            Due.fraction(x, "d is 1", x.height(lean + 1, lean, 0), 1000000, 1);
            Due.fraction(x, "d is 1, its place", x.height(lean + 1, lean, 1), 1000L * (lean + 1), 1);
            Due.noFraction(x, "d is 0", x.height(lean, lean, 0), 0, 1000L * (lean + 1), 1);
            Due.noFraction(x, "d is 0, its place", x.height(lean, lean, 1), 0, 1000L * (lean + 1), 1);
            Due.noFraction(x, "d is -1", x.height(lean, lean + 1, 0), 0, 1000L * (lean + 1), 1);
            Due.noFraction(x, "d is -1, its place", x.height(lean, lean + 1, 1), 0, 1000L * (lean + 1), 1);
        }
        Due.fraction(x, "the greatest d", x.height(20000, -20000, 0), 25, 1);
        Due.noFraction(x, "the least d", x.height(-20000, 20000, 0), 0, 25, 1);
    }

    /** "without an end, if d is no more than 2 SLIP". */
    private static void spanWithoutAnEnd() {
        CloudOffice x = new CloudOffice();
        Due.fraction(x, "d is 11, upper end", x.height(6, -5, 3), 1000000, 1);
        Due.noFraction(x, "d is 10, upper end", x.height(5, -5, 3), 0, 1000000, 1);
        Due.noFraction(x, "d is 9, upper end", x.height(5, -4, 3), 0, 1000000, 1);
        Due.fraction(x, "d is 10, lower end", x.height(5, -5, 2), 50000, 1);
        Due.fraction(x, "d is 10, the height", x.height(5, -5, 0), 100000, 1);
    }

    /** "none at all without d and 2 SLIP above 0". */
    private static void noSpanAtAll() {
        CloudOffice x = new CloudOffice();
        Due.fraction(x, "d is 0, lower end", x.height(0, 0, 2), 100000, 1);
        Due.fraction(x, "d is -9, lower end", x.height(-9, 0, 2), 1000000, 1);
        Due.noFraction(x, "d is -10, lower end", x.height(-10, 0, 2), 0, 1000000, 1);
        Due.noFraction(x, "d is -11, lower end", x.height(-11, 0, 2), 0, 1000000, 1);
        Due.noFraction(x, "d is -9, upper end", x.height(-9, 0, 3), 0, 1000000, 1);
        Due.noFraction(x, "d is -11, upper end", x.height(-11, 0, 3), 0, 1000000, 1);
    }

    private static void spanWithoutSlip() {
        CloudOffice x = new CloudOffice();
        x.base(10, 0);
        Due.fraction(x, "d is 1, upper end", x.height(1, 0, 3), 10000, 1);
        Due.fraction(x, "d is 3, lower end", x.height(3, 0, 2), 10000, 3);
        Due.noFraction(x, "d is 0, upper end", x.height(0, 0, 3), 0, 10000, 3);
        Due.noFraction(x, "d is 0, lower end", x.height(0, 0, 2), 0, 10000, 3);
    }

    private static void spanAtTheGreatestSlip() {
        CloudOffice x = new CloudOffice();
        x.base(100000, 1000);
        Due.fraction(x, "d is 2001, upper end", x.height(2001, 0, 3), 100000000, 1);
        Due.noFraction(x, "d is 2000, upper end", x.height(2000, 0, 3), 0, 100000000, 1);
        Due.fraction(x, "d is -1999, lower end", x.height(-1999, 0, 2), 100000000, 1);
        Due.noFraction(x, "d is -2000, lower end", x.height(-2000, 0, 2), 0, 100000000, 1);
        Due.fraction(x, "d is 40000, lower end", x.height(20000, -20000, 2), 50000, 21);
        Due.fraction(x, "d is 40000, upper end", x.height(20000, -20000, 3), 50000, 19);
    }

    /** "its PLACE is HEIGHT times the first's LEAN by 1000". */
    private static void placeTakesTheFirstsSign() {
        CloudOffice x = new CloudOffice();
        Due.fraction(x, "a lean of 0", x.height(0, -9, 1), 0, 1);
        Due.fraction(x, "a lean of -1", x.height(-1, -10, 1), -1000, 9);
        Due.fraction(x, "a lean of 1", x.height(1, -8, 1), 1000, 9);
        x.base(100000, 0);
        Due.fraction(x, "the furthest place", x.height(20000, 19999, 1), 2000000000, 1);
        Due.fraction(x, "the furthest behind", x.height(-19999, -20000, 1), -1999900000, 1);
    }

    /** "FRACTIONS are in lowest terms, below above 0". */
    private static void lowestTerms() {
        CloudOffice x = new CloudOffice();
        Due.fraction(x, "4 by 6 of a thousand", x.height(4, -2, 1), 2000, 3);
        Due.fraction(x, "-4 by 6 of a thousand", x.height(-4, -10, 1), -2000, 3);
        Due.fraction(x, "a whole number", x.height(500, -500, 0), 1000, 1);
        x.base(10, 0);
        Due.fraction(x, "1 by 4", x.height(20000, -20000, 0), 1, 4);
        Due.fraction(x, "nothing by much", x.height(0, -20000, 1), 0, 1);
        Due.fraction(x, "nothing to bring down", x.height(20000, -19997, 0), 10000, 39997);
    }

    /** "cut down to a whole number", below 0 too. */
    private static void cutDown() {
        CloudOffice x = new CloudOffice();
        x.base(10, 0);
        long[][] cuts = {{1, 10, 1}, {9, 10, 9}, {10, 11, 9}, {1, 11, 0}, {0, 5, 0}, {-1, 10, -1}, {-1, 11, -1}, {-10, 11, -10},
            {-11, 10, -11}, {-12, 11, -11}};
        for (long[] cut : cuts) {
            int first = (int) cut[0];
            x.height(first, first - (int) cut[1], 1);
            Due.is("floor of " + 10 * first + " by " + cut[1], x.floor(), cut[2]);
        }
    }

    private static void baseIsUsedAtOnce() {
        CloudOffice x = new CloudOffice();
        x.edge(0, 500, 1);
        x.edge(1, -500, 1);
        x.height(500, -500, 0);
        x.base(10, 0);
        Due.is("THE FRACTION stays as it was", x.part(0), 1000);
        Due.is("edges told before are now too low", x.cost(0, 0), NONE);
        x.base(20000, 0);
        Due.is("and now as high as may be", x.cost(0, 0), 0);
        x.base(20001, 0);
        Due.is("and now too high", x.cost(0, 0), NONE);
    }

    /** "is from LOW to HIGH", both of them in. */
    private static void fromLowToHigh() {
        CloudOffice x = new CloudOffice();
        x.edge(0, 500, 1);
        x.edge(1, -500, 1);
        int[][] turns = {{1000, 1000, 0}, {1, 1000, 0}, {1000, 100000, 0}, {1001, 100000, NONE}, {1, 999, NONE}, {999, 1001, 0}};
        for (int[] turn : turns) {
            x.rules(turn[0], turn[1], 50, 100);
            Due.is("1000, from " + turn[0] + " to " + turn[1], x.cost(0, 0), turn[2]);
        }
        x.base(100000, 5);
        x.rules(1, 100000, 50, 100);
        Due.is("100000 is the most", x.cost(0, 0), 0);
        x.base(10, 5);
        x.clear();
        x.edge(0, 5000, 1);
        x.edge(1, -5000, 1);
        Due.is("1 is the least", x.cost(0, 0), 0);
        x.edge(1, -5001, 1);
        Due.is("just below 1", x.cost(0, 1), NONE);
    }

    /** THE HEIGHT is a fraction: cut only where the document says so. */
    private static void lowAndHighHoldTheWholeFraction() {
        CloudOffice x = new CloudOffice();
        x.edge(0, 999, 1);
        x.edge(1, 0, 1);
        int[][] turns = {{1, 1001, NONE}, {1, 1002, 0}, {1001, 1002, 0}, {1002, 2000, NONE}};
        for (int[] turn : turns) {
            x.rules(turn[0], turn[1], 50, 100);
            Due.is("1001 and 1 by 999, from " + turn[0] + " to " + turn[1], x.cost(0, 0), turn[2]);
        }
    }

    /** "0, or UNLIKE for unlike WORDS". */
    private static void unlikeWords() {
        CloudOffice x = new CloudOffice();
        x.edge(0, 500, 0);
        x.edge(0, 500, 9);
        x.edge(1, -500, 0);
        x.edge(1, -500, 9);
        for (int unlike : new int[] {0, 1, 1000}) {
            x.rules(100, 20000, unlike, 100);
            Due.is("words 0 and 0", x.cost(0, 0), 0);
            Due.is("words 0 and 9", x.cost(0, 1), unlike);
            Due.is("words 9 and 0", x.cost(1, 0), unlike);
            Due.is("words 9 and 9", x.cost(1, 1), 0);
        }
    }

    /** "how far THE HEIGHT is from the nearest one", on either side of it. */
    private static void nearestLayer() {
        CloudOffice x = new CloudOffice();
        x.edge(0, 500, 1);
        x.edge(1, -500, 1);
        x.layer(100000);
        Due.is("the furthest above", x.cost(0, 0), 99000);
        x.layer(1);
        Due.is("the furthest below", x.cost(0, 0), 999);
        x.layer(1010);
        Due.is("10 above", x.cost(0, 0), 10);
        x.layer(990);
        Due.is("10 below as well", x.cost(0, 0), 10);
        x.layer(991);
        Due.is("9 below", x.cost(0, 0), 9);
        x.layer(1000);
        Due.is("at it", x.cost(0, 0), 0);
        x.base(100000, 0);
        x.rules(1, 100000, 1000, 1000);
        Due.is("at the greatest height", x.cost(0, 0), 0);
    }

    private static void heightIsCutForLayers() {
        CloudOffice x = new CloudOffice();
        x.edge(0, 1001, 1);
        x.edge(1, 0, 1);
        x.layer(999);
        Due.is("1000000 by 1001 is 999, cut", x.cost(0, 0), 0);
        x.base(1001, 5);
        Due.is("1000, nothing to cut", x.cost(0, 0), 1);
    }

    private static void noHeightNoCost() {
        CloudOffice x = new CloudOffice();
        x.rules(1, 100000, 0, 0);
        x.edge(0, 0, 1);
        x.edge(1, 0, 1);
        x.edge(1, 1, 1);
        x.edge(1, -10, 1);
        x.edge(1, -9, 1);
        Due.is("d is 0", x.cost(0, 0), NONE);
        Due.is("d is -1", x.cost(0, 1), NONE);
        Due.is("d is 10, though its span has no end", x.cost(0, 2), 0);
        Due.is("d is 9 and too high", x.cost(0, 3), NONE);
        x.base(10, 1000);
        x.edge(1, -1, 1);
        Due.is("d is 1, the least there is", x.cost(0, 4), 0);
        Due.is("d is 0, by a short BASE", x.cost(0, 0), NONE);
    }

    /** "ALONE for each EDGE in none and COSTS are together least": a pair of two against two alone. */
    private static void aloneAgainstCost() {
        CloudOffice x = new CloudOffice();
        x.edge(0, 500, 1);
        x.edge(1, -500, 2);
        x.rules(100, 20000, 201, 100);
        Due.is("201 against 200", x.matched(-1), 200);
        Due.is("alone", x.matched(0), NONE);
        x.rules(100, 20000, 200, 100);
        Due.is("200 against 200", x.matched(-1), 200);
        Due.is("of like ones NONE is first", x.matched(0), NONE);
        x.rules(100, 20000, 199, 100);
        Due.is("199 against 200", x.matched(-1), 199);
        Due.is("matched", x.matched(0), 0);
    }

    /** "of like ones the first as a row by the first's EDGES (NONE is first ..". */
    private static void noneIsFirst() {
        CloudOffice x = new CloudOffice();
        for (int i = 0; i < 4; i++) {
            x.edge(0, 500, 1);
        }
        x.edge(1, -500, 1);
        x.edge(1, -500, 1);
        int[] want = {NONE, NONE, 0, 1};
        Due.is("two are alone", x.matched(-1), 200);
        for (int i = 0; i < 4; i++) {
            Due.is("the row at " + i, x.matched(i), want[i]);
        }
    }

    /** ".. then the second's EDGES by numbers)". */
    private static void secondsByNumbers() {
        CloudOffice x = new CloudOffice();
        x.edge(0, 500, 1);
        x.edge(0, 500, 2);
        for (int i = 0; i < 4; i++) {
            x.edge(1, -500, 3);
        }
        Due.is("two pairs of unlike words, two alone", x.matched(-1), 300);
        Due.is("the first with the first", x.matched(0), 0);
        Due.is("the second with the second", x.matched(1), 1);
        x.edge(1, -500, 1);
        Due.is("a like word is worth more", x.matched(0), 4);
        Due.is("then the other has the first", x.matched(1), 0);
    }

    /** "each EDGE in one PAIR at most". */
    private static void eachInOnePairAtMost() {
        CloudOffice x = new CloudOffice();
        x.rules(100, 20000, 50, 1000);
        for (int i = 0; i < 8; i++) {
            x.edge(0, 500, 1);
            x.edge(1, i == 5 ? -500 : 20000, 1);
        }
        int with = 0;
        for (int i = 0; i < 8; i++) {
            with += x.matched(i) == 5 ? 1 : 0;
        }
        Due.is("fourteen are alone", x.matched(-1), 14000);
        Due.is("one has it", with, 1);
        Due.is("the last, for NONE is first", x.matched(7), 5);
    }

    private static void nothingCosts() {
        CloudOffice x = new CloudOffice();
        x.rules(100, 20000, 0, 0);
        for (int i = 0; i < 8; i++) {
            x.edge(0, 500, i);
            x.edge(1, -500, i);
        }
        Due.is("all for nothing", x.matched(-1), 0);
        for (int i = 0; i < 8; i++) {
            Due.is("so NONE, the first", x.matched(i), NONE);
        }
        x.rules(100, 20000, 0, 1);
        Due.is("alone costs 1", x.matched(-1), 0);
        for (int i = 0; i < 8; i++) {
            Due.is("so all by numbers", x.matched(i), i);
        }
    }

    /** The most that a sum of costs and of edges alone can be. */
    private static void dearestSky() {
        CloudOffice x = new CloudOffice();
        x.base(100000, 0);
        x.rules(1, 100000, 1000, 1000);
        x.layer(1);
        for (int i = 0; i < 8; i++) {
            x.edge(0, 500, 1);
            x.edge(1, -500, 2);
        }
        Due.is("as dear as a pair can be", x.cost(7, 7), 100999);
        Due.is("all alone", x.matched(-1), 16000);
        Due.is("nobody's", x.matched(7), NONE);
    }
}
