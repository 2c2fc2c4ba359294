import java.util.List;

/** As many of each kind as there may be, and one more; the last one counts, and the one that is refused does not. */
public final class FullTest {
    private static final int FULL = CloudOffice.FULL;
    private static final int BAD = CloudOffice.BAD;

    public static void main(String[] args) {
        fill(0, 8, 1, call("edge", 0, 100, 1), call("edge", 0, 20001, 1));
        fill(1, 8, 1, call("edge", 1, -100, 1), call("edge", 1, -100, 10));
        fill(2, 6, 1, call("layer", 700), call("layer", 0));
        fill(3, 40, 0, call("sight", 1, 2, 3, -4), call("sight", 1, 2, 3, -20001));
        fill(4, 40, 0, call("shadow", 1, 2, 3, 4), call("shadow", 1, 2, 3, -1));
        fill(5, 24, 1, call("span", 1, 2, 3), call("span", 2, 1, 3));
        fill(6, 40, 1, call("pair", 1, 2, 3), call("pair", 2, 2, 3));
        fill(7, 200, 0, call("row", 1, 2, 3, 4), call("row", 1, 2, 8, 4));
        fill(8, 100, 1, call("under", 1, 2), call("under", 2, 2));
        lastEdges();
        lastLayer();
        lastSightAndShadow();
        lastSpan();
        lastPair();
        lastRow();
        lastNote();
        allFull();
        clearMakesRoom();
        sweepMakesRoom();
        Due.end();
    }

    private record Call(String name, int... numbers) {
        long on(CloudOffice x) {
            return Calls.answer(x, name, numbers);
        }

        @Override
        public String toString() {
            return Calls.text(name, numbers);
        }
    }

    private static Call call(String name, int... numbers) {
        return new Call(name, numbers);
    }

    /** From none to the most, then one more; "the first of: BAD .. FULL": a bad one is BAD in a full row, too. */
    private static void fill(int what, int most, int from, Call asTold, Call notAsTold) {
        CloudOffice x = new CloudOffice();
        CloudOffice untouched = new CloudOffice();
        for (int i = 0; i < most; i++) {
            Due.is(asTold + ", the one numbered " + i, asTold.on(x), i + from);
            asTold.on(untouched);
        }
        List<String> before = BusyOffice.picture(untouched);
        Due.is("count(" + what + ")", x.count(what), most);
        Due.is("one more " + asTold, asTold.on(x), FULL);
        Due.is("and more", asTold.on(x), FULL);
        Due.is("BAD ahead of FULL: " + notAsTold, notAsTold.on(x), BAD);
        Due.is("count(" + what + ") is as it was", x.count(what), most);
        Due.isTrue("all is as it was after " + asTold, BusyOffice.picture(x).equals(before));
    }

    private static void lastEdges() {
        CloudOffice x = new CloudOffice();
        for (int i = 0; i < 7; i++) {
            x.edge(0, -20000, 1);
            x.edge(1, 20000, 1);
        }
        x.edge(0, 500, 1);
        x.edge(1, -500, 1);
        Due.is("a ninth of the first", x.edge(0, 600, 1), FULL);
        Due.is("a ninth of the second", x.edge(1, -600, 1), FULL);
        Due.is("cost of the eighth ones", x.cost(7, 7), 0);
        Due.is("no ninth of the first", x.cost(8, 7), BAD);
        Due.is("no ninth of the second", x.cost(7, 8), BAD);
        Due.is("fourteen alone", x.matched(-1), 1400);
        Due.is("the eighth is with the eighth", x.matched(7), 7);
        Due.is("the seventh is alone", x.matched(6), CloudOffice.NONE);
        Due.is("no ninth is matched", x.matched(8), -10);
    }

    private static void lastLayer() {
        CloudOffice x = new CloudOffice();
        x.edge(0, 500, 1);
        x.edge(1, -500, 1);
        for (int i = 0; i < 5; i++) {
            x.layer(5000);
        }
        Due.is("five are far", x.cost(0, 0), 4000);
        x.layer(990);
        Due.is("the sixth is near", x.cost(0, 0), 10);
        Due.is("a seventh", x.layer(1000), FULL);
        Due.is("it is not there", x.cost(0, 0), 10);
    }

    private static void lastSightAndShadow() {
        CloudOffice x = new CloudOffice();
        for (int i = 0; i < 39; i++) {
            x.sight(0, 0, 0, -1000);
            x.shadow(0, 0, 0, 0);
        }
        Due.is("sight 39 is not there yet", x.speed(0, 39, 0), BAD);
        Due.is("shadow 39 is not there yet", x.shade(0, 39, 0), BAD);
        Due.is("sight 39", x.sight(0, 10, 100, -900), 39);
        Due.is("shadow 39", x.shadow(0, 10, 200, 0), 39);
        Due.is("sight 40", x.sight(0, 10, 0, -1000), FULL);
        Due.is("shadow 40", x.shadow(0, 10, 0, 0), FULL);
        Due.fraction(x, "speed(0, 39, 0)", x.speed(0, 39, 0), 10, 1);
        Due.fraction(x, "shade(38, 39, 0)", x.shade(38, 39, 0), 20, 1);
        Due.is("agree(38, 39, 0, 39)", x.agree(38, 39, 0, 39), 0);
        Due.is("speed(0, 40, 0)", x.speed(0, 40, 0), BAD);
        Due.is("shade(0, 40, 0)", x.shade(0, 40, 0), BAD);
        Due.is("agree(0, 40, 0, 39)", x.agree(0, 40, 0, 39), BAD);
        Due.is("agree(0, 39, 0, 40)", x.agree(0, 39, 0, 40), BAD);
    }

    private static void lastSpan() {
        CloudOffice x = new CloudOffice();
        for (int i = 0; i < 24; i++) {
            Due.is("so many layers as spans", x.must(0, -1), i);
            x.span(100 + 10 * i, 105 + 10 * i, 0);
        }
        Due.is("a span too many", x.span(0, 1, 0), FULL);
        Due.is("24 layers", x.must(0, -1), 24);
        Due.is("the first of them", x.must(0, 0), 105);
        Due.is("the last of them", x.must(0, 23), 335);
        Due.is("not so many", x.must(0, 24), CloudOffice.NONE);
        Due.is("24 tilted by none", x.tilted(1), 24);
        Due.is("no tilt", x.tilted(0), 0);
    }

    private static void lastPair() {
        CloudOffice x = new CloudOffice();
        for (int i = 0; i < 39; i++) {
            x.pair(1, 0, 100);
        }
        Due.is("39 alike", x.worst(), 0);
        x.pair(1, 0, 110);
        Due.is("the fortieth is 10 off", x.worst(), 5);
        Due.is("between both", x.bent(1), 105);
        Due.is("a pair too many", x.pair(1, 0, 2000), FULL);
        Due.is("it joins nothing", x.pair(5, 4, 0), FULL);
        Due.is("the worst stays", x.worst(), 5);
        Due.is("watcher 5 is in no pair", x.bent(5), -200000);
    }

    private static void lastRow() {
        CloudOffice x = new CloudOffice();
        for (int i = 0; i < 199; i++) {
            x.row(0, 12, 4, 100000);
        }
        Due.is("199 far off", x.guess(0, 0, 0, 1), 199);
        Due.is("together no more than an int holds", x.guess(0, 0, 0, 0), 100000);
        Due.is("row 199", x.row(0, 0, 0, 7), 199);
        Due.is("a row too many", x.row(0, 0, 0, 9), FULL);
        Due.is("the last is nearest", x.guess(0, 0, 0, 0), 7);
        Due.is("it alone", x.guess(0, 0, 0, 1), 1);
    }

    private static void lastNote() {
        CloudOffice x = new CloudOffice();
        for (int i = 0; i < 50; i++) {
            x.under(6, 7);
        }
        for (int i = 0; i < 49; i++) {
            x.under(7, 6);
        }
        Due.is("49 quarrel", x.order(8), 49);
        x.under(7, 6);
        Due.is("the hundredth makes it even", x.order(8), 50);
        Due.is("of like ones the first", x.order(6), 6);
        Due.is("a note too many", x.under(7, 6), FULL);
        Due.is("it is not counted", x.order(8), 50);
        Due.is("nor followed", x.order(6), 6);
    }

    /** All kinds full in one object, which takes 466 calls; then all is still answered as the plain model does. */
    private static void allFull() {
        CloudOffice x = new CloudOffice();
        PlainOffice plain = new PlainOffice();
        for (int i = 0; i < 200; i++) {
            both(x, plain, "row", i % 8, i % 24, i % 7, i * 500);
            if (i < 100) {
                both(x, plain, "under", i % 8, (i + 1 + i % 7) % 8);
            }
            if (i < 40) {
                both(x, plain, "sight", i % 2, i * 36, 20000 - i, -20000 + i);
                both(x, plain, "shadow", i % 2, i * 36, 50 * i, 10000);
                both(x, plain, "pair", i % 6, (i + 1 + i % 5) % 6, 2000 - 100 * i);
            }
            if (i < 24) {
                both(x, plain, "span", 4000 * i, 4000 * i + 3000, 10000 - 800 * i);
            }
            if (i < 8) {
                both(x, plain, "edge", 0, 500 + 10 * i, i % 3);
                both(x, plain, "edge", 1, -500 - 10 * i, i % 4);
            }
            if (i < 6) {
                both(x, plain, "layer", 900 + 20 * i);
            }
        }
        both(x, plain, "digest");
        both(x, plain, "matched", -1);
        both(x, plain, "matched", 7);
        both(x, plain, "must", 50, -1);
        both(x, plain, "tilted", 0);
        both(x, plain, "tilted", 1);
        both(x, plain, "worst");
        both(x, plain, "bent", 5);
        both(x, plain, "order", 7);
        both(x, plain, "order", 8);
        both(x, plain, "guess", 7, 23, 7, 0);
        both(x, plain, "speed", 0, 38, 2);
        both(x, plain, "shade", 1, 39, 1);
        both(x, plain, "agree", 0, 38, 38, 0);
        both(x, plain, "digest");
        both(x, plain, "row", 0, 0, 0, 0);
        both(x, plain, "under", 0, 1);
        both(x, plain, "sight", 0, 0, 0, 0);
        both(x, plain, "shadow", 0, 0, 0, 0);
        both(x, plain, "pair", 0, 1, 0);
        both(x, plain, "span", 0, 1, 0);
        both(x, plain, "edge", 0, 0, 0);
        both(x, plain, "edge", 1, 0, 0);
        both(x, plain, "layer", 1);
        both(x, plain, "digest");
    }

    private static void both(CloudOffice x, PlainOffice plain, String name, int... numbers) {
        Due.is("all full: " + Calls.text(name, numbers), Calls.answer(x, name, numbers), plain.call(name, numbers));
    }

    private static void clearMakesRoom() {
        CloudOffice x = new CloudOffice();
        for (int round = 0; round < 3; round++) {
            for (int i = 1; i <= 8; i++) {
                Due.is("edge of the first", x.edge(0, 100 * round, 1), i);
                Due.is("edge of the second", x.edge(1, -500, 1), i);
            }
            Due.is("a ninth", x.edge(0, 0, 1), FULL);
            Due.is("all go", x.clear(), 16);
        }
        x.edge(0, 500, 2);
        x.edge(1, -500, 2);
        Due.is("what went costs nothing", x.matched(-1), 0);
        Due.is("what went is not matched", x.matched(1), -10);
    }

    private static void sweepMakesRoom() {
        CloudOffice x = new CloudOffice();
        for (int round = 0; round < 3; round++) {
            for (int i = 1; i <= 24; i++) {
                Due.is("span", x.span(10 * i, 10 * i + round, i), i);
            }
            Due.is("one more", x.span(0, 1, 0), FULL);
            Due.is("layers", x.must(0, -1), 24);
            Due.is("all go", x.sweep(), 24);
        }
        x.span(5, 6, 0);
        Due.is("what went needs no layer", x.must(0, -1), 1);
        Due.is("the one there is", x.must(0, 0), 6);
        Due.is("no second", x.must(0, 1), CloudOffice.NONE);
    }
}
