/** With nothing there: a new object, an object that was emptied, and what is none where some but not the right is there. */
public final class NothingThereTest {
    private static final int NONE = CloudOffice.NONE;
    private static final int BAD = CloudOffice.BAD;

    public static void main(String[] args) {
        asTold();
        asToldCanBeSeen();
        noEdges();
        oneSideWithoutEdges();
        clearedEdges();
        noLayers();
        noSightsOrShadows();
        noHeights();
        sweptHeights();
        noPairs();
        noRows();
        onlyGaps();
        noNotes();
        twoObjectsAreApart();
        Due.end();
    }

    /** "As told; nothing is there; THE FRACTION is 0 by 1." */
    private static void asTold() {
        CloudOffice x = new CloudOffice();
        long h = 317;
        for (long v : new long[] {0, 0, 0, 0, 0, 0, 0, 0, 0, 1000, 5, 100, 20000, 50, 100, 0, 1}) {
            h = 31 * h + v;
        }
        Due.is("digest()", x.digest(), h);
        Due.is("part(0)", x.part(0), 0);
        Due.is("part(1)", x.part(1), 1);
        Due.is("floor()", x.floor(), 0);
        for (int what = 0; what <= 8; what++) {
            Due.is("count(" + what + ")", x.count(what), 0);
        }
    }

    /** "1000 at first", "5 at first", "100 and 20000 at first", "50 at first", "100 at first", each by what it does. */
    private static void asToldCanBeSeen() {
        CloudOffice x = new CloudOffice();
        Due.fraction(x, "BASE", x.height(1, 0, 0), 1000000, 1);
        Due.fraction(x, "SLIP, lower end", x.height(1, 0, 2), 1000000, 11);
        Due.fraction(x, "SLIP, upper end", x.height(11, 0, 3), 1000000, 1);
        x.edge(0, 10000, 1);
        x.edge(1, 0, 1);
        Due.is("LOW", x.cost(0, 0), 0);
        x.edge(0, 10001, 1);
        Due.is("below LOW", x.cost(1, 0), NONE);
        x.edge(0, 50, 2);
        Due.is("HIGH, UNLIKE", x.cost(2, 0), 50);
        x.edge(0, 49, 2);
        Due.is("above HIGH", x.cost(3, 0), NONE);
        Due.is("ALONE", x.matched(-1), 300);
    }

    private static void noEdges() {
        CloudOffice x = new CloudOffice();
        Due.is("clear()", x.clear(), 0);
        Due.is("cost(0, 0)", x.cost(0, 0), BAD);
        Due.is("matched(-1)", x.matched(-1), 0);
        Due.is("matched(0)", x.matched(0), -10);
    }

    private static void oneSideWithoutEdges() {
        CloudOffice x = new CloudOffice();
        x.edge(0, 500, 1);
        Due.is("the second has none: cost(0, 0)", x.cost(0, 0), BAD);
        Due.is("the second has none: matched(-1)", x.matched(-1), 100);
        Due.is("the second has none: matched(0)", x.matched(0), NONE);
        Due.is("the second has none: clear()", x.clear(), 1);
        x.edge(1, -500, 1);
        Due.is("the first has none: cost(0, 0)", x.cost(0, 0), BAD);
        Due.is("the first has none: matched(-1)", x.matched(-1), 100);
        Due.is("the first has none: matched(0)", x.matched(0), -10);
        Due.is("the first has none: clear()", x.clear(), 1);
    }

    /** "All EDGES go: how many"; all else stays. */
    private static void clearedEdges() {
        CloudOffice x = BusyOffice.make();
        Due.is("clear()", x.clear(), 5);
        Due.is("clear() again", x.clear(), 0);
        int[] left = {0, 0, 2, 5, 4, 4, 3, 4, 3};
        for (int what = 0; what <= 8; what++) {
            Due.is("count(" + what + ") after clear()", x.count(what), left[what]);
        }
        Due.is("cost(0, 0) after clear()", x.cost(0, 0), BAD);
        Due.is("matched(-1) after clear()", x.matched(-1), 0);
        Due.is("matched(0) after clear()", x.matched(0), -10);
        Due.is("THE FRACTION after clear()", x.part(0), -6000);
        PlainOffice plain = BusyOffice.makePlain();
        plain.call("clear");
        Due.is("digest() after clear()", x.digest(), plain.call("digest"));
    }

    /** "with any LAYERS": without them a PAIR of like WORDS costs nothing, wherever it is. */
    private static void noLayers() {
        CloudOffice x = new CloudOffice();
        x.edge(0, 500, 1);
        x.edge(1, -500, 1);
        Due.is("cost(0, 0) without layers", x.cost(0, 0), 0);
        x.layer(1);
        Due.is("cost(0, 0) with one far off", x.cost(0, 0), 999);
    }

    private static void noSightsOrShadows() {
        CloudOffice x = new CloudOffice();
        for (int what = 0; what < 3; what++) {
            Due.noFraction(x, "speed(0, 1, " + what + ")", x.speed(0, 1, what), BAD, 0, 1);
            Due.noFraction(x, "shade(0, 1, " + what + ")", x.shade(0, 1, what), BAD, 0, 1);
        }
        Due.is("agree(0, 1, 0, 1)", x.agree(0, 1, 0, 1), BAD);
        x.sight(0, 0, 0, -1000);
        x.sight(0, 1, 0, -1000);
        Due.is("no shadows: agree(0, 1, 0, 1)", x.agree(0, 1, 0, 1), BAD);
        Due.is("no shadows: shade(0, 1, 0)", x.shade(0, 1, 0), BAD);
        CloudOffice y = new CloudOffice();
        y.shadow(0, 0, 0, 0);
        y.shadow(0, 1, 0, 0);
        Due.is("no sights: agree(0, 1, 0, 1)", y.agree(0, 1, 0, 1), BAD);
        Due.is("no sights: speed(0, 1, 0)", y.speed(0, 1, 0), BAD);
    }

    private static void noHeights() {
        CloudOffice x = new CloudOffice();
        Due.is("sweep()", x.sweep(), 0);
        for (int tilt : new int[] {-50, 0, 50}) {
            Due.is("must(" + tilt + ", -1)", x.must(tilt, -1), 0);
            Due.is("must(" + tilt + ", 0)", x.must(tilt, 0), NONE);
        }
        Due.is("tilted(0)", x.tilted(0), 0);
        Due.is("tilted(1)", x.tilted(1), 0);
    }

    /** "All HEIGHTS go: how many"; all else stays. */
    private static void sweptHeights() {
        CloudOffice x = BusyOffice.make();
        Due.is("must(0, -1)", x.must(0, -1), 2);
        Due.is("sweep()", x.sweep(), 4);
        Due.is("sweep() again", x.sweep(), 0);
        int[] left = {2, 3, 2, 5, 4, 0, 3, 4, 3};
        for (int what = 0; what <= 8; what++) {
            Due.is("count(" + what + ") after sweep()", x.count(what), left[what]);
        }
        Due.is("must(0, -1) after sweep()", x.must(0, -1), 0);
        Due.is("must(0, 0) after sweep()", x.must(0, 0), NONE);
        Due.is("tilted(0) after sweep()", x.tilted(0), 0);
        Due.is("tilted(1) after sweep()", x.tilted(1), 0);
        PlainOffice plain = BusyOffice.makePlain();
        plain.call("sweep");
        Due.is("digest() after sweep()", x.digest(), plain.call("digest"));
    }

    /** "NONE: there are no PAIRS"; "WATCHER 0: always 0"; "NO: worst() is NONE". */
    private static void noPairs() {
        CloudOffice x = new CloudOffice();
        Due.is("worst()", x.worst(), NONE);
        Due.is("bent(0)", x.bent(0), 0);
        for (int watcher = 1; watcher < 6; watcher++) {
            Due.is("bent(" + watcher + ")", x.bent(watcher), -200000);
        }
    }

    private static void noRows() {
        CloudOffice x = new CloudOffice();
        noGuess(x, 0);
        noGuess(x, 7);
    }

    private static void noGuess(CloudOffice x, int form) {
        Due.is("guess, form " + form, x.guess(form, 0, 0, 0), NONE);
        Due.is("how many rows, form " + form, x.guess(form, 0, 0, 1), 0);
        Due.is("their distance, form " + form, x.guess(form, 0, 0, 2), NONE);
    }

    /** "a height (0 .. 100000) or NONE (a gap)", "(no gaps)", "of that FORM". */
    private static void onlyGaps() {
        CloudOffice x = new CloudOffice();
        for (int i = 0; i < 3; i++) {
            x.row(4, i, 0, NONE);
        }
        x.row(5, 0, 0, 0);
        noGuess(x, 4);
        noGuess(x, 6);
        Due.is("a height of 0 is no gap", x.guess(5, 0, 0, 0), 0);
        Due.is("a height of 0 is counted", x.guess(5, 0, 0, 1), 1);
        Due.is("gaps are rows", x.count(7), 4);
    }

    private static void noNotes() {
        CloudOffice x = new CloudOffice();
        for (int place = 0; place < 8; place++) {
            Due.is("order(" + place + ")", x.order(place), place);
        }
        Due.is("order(8)", x.order(8), 0);
    }

    private static void twoObjectsAreApart() {
        long empty = new CloudOffice().digest();
        CloudOffice x = new CloudOffice();
        BusyOffice.picture(BusyOffice.make());
        Due.is("another office is told nothing", x.digest(), empty);
        Due.is("another office has no order", x.order(0), 0);
        Due.is("another office has no worst", x.worst(), NONE);
    }
}
