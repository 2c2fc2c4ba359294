/** Promises 1 to 11: a new object, heights and their spans, edges and how they are matched. */
public final class TwoEndsTest {
    private static final int MAX = Integer.MAX_VALUE;
    private static final int MIN = Integer.MIN_VALUE;

    public static void main(String[] args) {
        newObject();
        base();
        edge();
        clear();
        height();
        part();
        floor();
        layer();
        rules();
        cost();
        matched();
        Due.end();
    }

    private static void newObject() {
        CloudOffice x = new CloudOffice();
        for (int what = 0; what <= 8; what++) {
            Due.is("new: count(" + what + ")", x.count(what), 0);
        }
        Due.is("new: part(0)", x.part(0), 0);
        Due.is("new: part(1)", x.part(1), 1);
        Due.is("new: floor()", x.floor(), 0);
        long h = 317;
        long[] told = {0, 0, 0, 0, 0, 0, 0, 0, 0, 1000, 5, 100, 20000, 50, 100, 0, 1};
        for (long v : told) {
            h = 31 * h + v;
        }
        Due.is("new: digest()", x.digest(), h);
    }

    private static void base() {
        CloudOffice x = new CloudOffice();
        long before = x.digest();
        int[][] bad = {{9, 5}, {100001, 5}, {1000, -1}, {1000, 1001}, {MIN, 0}, {MAX, 0}, {10, MIN}, {10, MAX}};
        for (int[] b : bad) {
            Due.is("base(" + b[0] + ", " + b[1] + ")", x.base(b[0], b[1]), CloudOffice.BAD);
        }
        Due.is("bad base changes nothing", x.digest(), before);
        Due.is("base(10, 0)", x.base(10, 0), 1);
        Due.fraction(x, "height of base 10", x.height(1, 0, 0), 10000, 1);
        Due.is("base(100000, 1000)", x.base(100000, 1000), 1);
        Due.fraction(x, "height of base 100000", x.height(20000, -20000, 0), 2500, 1);
        Due.fraction(x, "lower end by slip 1000", x.height(20000, -20000, 2), 50000, 21);
    }

    private static void edge() {
        CloudOffice x = new CloudOffice();
        int[][] bad = {{-1, 0, 0}, {2, 0, 0}, {0, -20001, 0}, {0, 20001, 0}, {1, 0, -1}, {1, 0, 10}, {MAX, MAX, MAX}};
        for (int[] b : bad) {
            Due.is("edge " + b[0] + " " + b[1] + " " + b[2], x.edge(b[0], b[1], b[2]), CloudOffice.BAD);
        }
        for (int i = 1; i <= 8; i++) {
            Due.is("edge of the first", x.edge(0, i % 2 == 0 ? 20000 : -20000, i % 2 == 0 ? 0 : 9), i);
        }
        Due.is("the second's are counted apart", x.edge(1, 0, 0), 1);
        long before = x.digest();
        Due.is("a ninth edge", x.edge(0, 0, 0), CloudOffice.FULL);
        Due.is("BAD is ahead of FULL", x.edge(0, 20001, 0), CloudOffice.BAD);
        Due.is("refused edges change nothing", x.digest(), before);
        for (int i = 2; i <= 8; i++) {
            Due.is("edge of the second", x.edge(1, 0, 0), i);
        }
        Due.is("a ninth edge of the second", x.edge(1, 0, 0), CloudOffice.FULL);
    }

    private static void clear() {
        CloudOffice x = new CloudOffice();
        Due.is("nothing to clear", x.clear(), 0);
        x.edge(0, 5, 1);
        x.edge(1, 6, 2);
        x.edge(1, 7, 3);
        x.layer(10);
        Due.is("clear()", x.clear(), 3);
        Due.is("first are gone", x.count(0), 0);
        Due.is("second are gone", x.count(1), 0);
        Due.is("layers stay", x.count(2), 1);
        Due.is("clear() again", x.clear(), 0);
        Due.is("edges come anew", x.edge(1, 6, 2), 1);
    }

    private static void height() {
        CloudOffice x = new CloudOffice();
        Due.fraction(x, "height(3, 0, 0)", x.height(3, 0, 0), 1000000, 3);
        Due.fraction(x, "height(3, -4, 1)", x.height(3, -4, 1), 3000, 7);
        Due.fraction(x, "height(-3, -10, 1)", x.height(-3, -10, 1), -3000, 7);
        Due.fraction(x, "height(0, -7, 1)", x.height(0, -7, 1), 0, 1);
        Due.fraction(x, "height(0, -1, 2)", x.height(0, -1, 2), 1000000, 11);
        Due.fraction(x, "height(0, -11, 3)", x.height(0, -11, 3), 1000000, 1);
        Due.noFraction(x, "no end", x.height(0, -10, 3), 0, 1000000, 1);
        Due.noFraction(x, "no height", x.height(0, 0, 0), 0, 1000000, 1);
        Due.noFraction(x, "no place", x.height(0, 1, 1), 0, 1000000, 1);
        Due.fraction(x, "lower end without a height", x.height(0, 9, 2), 1000000, 1);
        Due.noFraction(x, "no span at all", x.height(0, 10, 2), 0, 1000000, 1);
        int[][] bad = {{20001, 0, 0}, {-20001, 0, 0}, {0, 20001, 0}, {0, -20001, 0}, {1, 0, -1}, {1, 0, 4}, {MAX, MIN, 0}};
        for (int[] b : bad) {
            Due.noFraction(x, "bad height", x.height(b[0], b[1], b[2]), CloudOffice.BAD, 1000000, 1);
        }
        x.base(1000, 0);
        Due.fraction(x, "without slip, upper end", x.height(1, 0, 3), 1000000, 1);
        Due.fraction(x, "without slip, lower end", x.height(1, 0, 2), 1000000, 1);
        Due.noFraction(x, "without slip and gap", x.height(1, 1, 2), 0, 1000000, 1);
    }

    private static void part() {
        CloudOffice x = new CloudOffice();
        x.height(6, -8, 1);
        Due.is("part(0)", x.part(0), 3000);
        Due.is("part(1)", x.part(1), 7);
        for (int what : new int[] {-1, 2, MAX, MIN}) {
            Due.is("part(" + what + ")", x.part(what), -9000000000000000000L);
        }
    }

    private static void floor() {
        CloudOffice x = new CloudOffice();
        x.height(3, -4, 1);
        Due.is("floor of 3000 by 7", x.floor(), 428);
        x.height(-3, -10, 1);
        Due.is("floor of -3000 by 7", x.floor(), -429);
        x.height(-7, -14, 1);
        Due.is("floor of -1000", x.floor(), -1000);
    }

    private static void layer() {
        CloudOffice x = new CloudOffice();
        for (int height : new int[] {0, -1, 100001, MAX, MIN}) {
            Due.is("layer(" + height + ")", x.layer(height), CloudOffice.BAD);
        }
        for (int i = 1; i <= 6; i++) {
            Due.is("layer", x.layer(i % 2 == 0 ? 1 : 100000), i);
        }
        long before = x.digest();
        Due.is("a seventh layer", x.layer(1), CloudOffice.FULL);
        Due.is("BAD is ahead of FULL", x.layer(0), CloudOffice.BAD);
        Due.is("refused layers change nothing", x.digest(), before);
    }

    private static void rules() {
        CloudOffice x = new CloudOffice();
        long before = x.digest();
        int[][] bad = {{0, 5, 0, 0}, {100001, 100001, 0, 0}, {1, 100001, 0, 0}, {6, 5, 0, 0}, {1, 0, 0, 0},
            {1, 5, -1, 0}, {1, 5, 1001, 0}, {1, 5, 0, -1}, {1, 5, 0, 1001}, {MIN, MIN, 0, 0}, {MAX, MAX, 0, 0}};
        for (int[] b : bad) {
            Due.is("bad rules", x.rules(b[0], b[1], b[2], b[3]), CloudOffice.BAD);
        }
        Due.is("bad rules change nothing", x.digest(), before);
        Due.is("rules(1, 100000, 0, 0)", x.rules(1, 100000, 0, 0), 1);
        Due.is("rules(100000, 100000, 1000, 1000)", x.rules(100000, 100000, 1000, 1000), 1);
        Due.is("rules(7, 7, 3, 4)", x.rules(7, 7, 3, 4), 1);
    }

    private static void cost() {
        CloudOffice x = new CloudOffice();
        Due.is("no edges", x.cost(0, 0), CloudOffice.BAD);
        x.edge(0, 50, 1);
        x.edge(0, 10000, 2);
        x.edge(1, 0, 1);
        x.edge(1, 50, 1);
        x.edge(1, 49, 1);
        Due.is("height 20000 is still matched", x.cost(0, 0), 0);
        Due.is("height 100 is still matched, words unlike", x.cost(1, 0), 50);
        Due.is("no height", x.cost(0, 1), CloudOffice.NONE);
        Due.is("too high", x.cost(0, 2), CloudOffice.NONE);
        x.rules(101, 19999, 50, 100);
        Due.is("now above HIGH", x.cost(0, 0), CloudOffice.NONE);
        Due.is("now below LOW", x.cost(1, 0), CloudOffice.NONE);
        int[][] bad = {{2, 0}, {0, 3}, {-1, 0}, {0, -1}, {MAX, MAX}, {MIN, MIN}};
        for (int[] b : bad) {
            Due.is("cost of no edge", x.cost(b[0], b[1]), CloudOffice.BAD);
        }
        costByLayers();
        highIsExact();
    }

    private static void costByLayers() {
        CloudOffice x = new CloudOffice();
        x.edge(0, 700, 3);
        x.edge(1, 0, 4);
        x.layer(1430);
        Due.is("1428 is 2 from 1430", x.cost(0, 0), 52);
        x.layer(1427);
        Due.is("1428 is 1 from 1427", x.cost(0, 0), 51);
        x.layer(100000);
        Due.is("a far layer is not the nearest", x.cost(0, 0), 51);
    }

    private static void highIsExact() {
        CloudOffice x = new CloudOffice();
        x.edge(0, 700, 3);
        x.edge(1, 0, 3);
        x.rules(1, 1428, 0, 0);
        Due.is("1428 and 4 by 7 is above 1428", x.cost(0, 0), CloudOffice.NONE);
        x.rules(1429, 2000, 0, 0);
        Due.is("1428 and 4 by 7 is below 1429", x.cost(0, 0), CloudOffice.NONE);
        x.rules(1428, 1429, 0, 0);
        Due.is("1428 and 4 by 7 is between", x.cost(0, 0), 0);
    }

    private static void matched() {
        CloudOffice x = new CloudOffice();
        Due.is("nothing is matched", x.matched(-1), 0);
        for (int what : new int[] {0, -2, 8, MAX, MIN}) {
            Due.is("matched(" + what + ") of none", x.matched(what), -10);
        }
        x.edge(1, 0, 0);
        Due.is("the second's alone", x.matched(-1), 100);
        Due.is("no first yet", x.matched(0), -10);
        x.edge(0, 1000, 0);
        x.edge(0, 1000, 0);
        Due.is("one pair, one alone", x.matched(-1), 100);
        Due.is("NONE is first", x.matched(0), -1);
        Due.is("so the other has it", x.matched(1), 0);
        Due.is("no third", x.matched(2), -10);
        x.edge(1, 0, 0);
        Due.is("two pairs", x.matched(-1), 0);
        Due.is("by numbers", x.matched(0), 0);
        Due.is("by numbers", x.matched(1), 1);
        x.rules(100, 20000, 0, 0);
        Due.is("alone for nothing", x.matched(-1), 0);
        Due.is("then NONE is first", x.matched(0), -1);
        x.rules(100, 20000, 50, 25);
        x.clear();
        x.edge(0, 1000, 1);
        x.edge(1, 0, 2);
        Due.is("50 either way", x.matched(-1), 50);
        Due.is("of like ones NONE", x.matched(0), -1);
        fullMatch();
    }

    private static void fullMatch() {
        CloudOffice x = new CloudOffice();
        for (int i = 0; i < 8; i++) {
            x.edge(0, 1000, i);
            x.edge(1, 0, (i + 3) % 8);
        }
        Due.is("eight pairs", x.matched(-1), 0);
        for (int i = 0; i < 8; i++) {
            Due.is("by words", x.matched(i), (i + 5) % 8);
        }
        x.rules(5000, 20000, 0, 1000);
        Due.is("sixteen alone", x.matched(-1), 16000);
        Due.is("alone", x.matched(7), -1);
        Due.is("no ninth", x.matched(8), -10);
    }
}
