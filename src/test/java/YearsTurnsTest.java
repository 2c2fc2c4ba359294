/** Where promises 26 to 31 turn from one answer to another: round the day, round the card, and of like ones the first. */
public final class YearsTurnsTest {
    private static final int NONE = CloudOffice.NONE;

    public static void main(String[] args) {
        rowsAsTheyCome();
        roundTheDay();
        roundTheCard();
        bothTogether();
        nearestOnBothSides();
        gapsAreNoRows();
        otherFormsAreNoRows();
        cutMean();
        orderOfAllEight();
        oneNoteTurnsTheOrder();
        ofLikeOrdersTheFirst();
        quarrelOfRounds();
        countsAreApart();
        digestHasAllInOrder();
        digestTellsLinesApart();
        Due.end();
    }

    /** "ROWS 0 .. 199, as they come": a gap has a number, too. */
    private static void rowsAsTheyCome() {
        CloudOffice x = new CloudOffice();
        Due.is("a height of 0", x.row(0, 0, 0, 0), 0);
        Due.is("a gap", x.row(0, 0, 0, NONE), 1);
        Due.is("a height of 100000", x.row(7, 23, 7, 100000), 2);
        Due.is("three rows", x.count(7), 3);
    }

    /** "hours round the day (12 at most)": each hour from each. */
    private static void roundTheDay() {
        for (int hour = 0; hour < 24; hour++) {
            CloudOffice x = new CloudOffice();
            x.row(3, hour, 2, 500);
            for (int asked = 0; asked < 24; asked++) {
                int ahead = 0;
                while ((hour + ahead) % 24 != asked && (asked + ahead) % 24 != hour) {
                    ahead++;
                }
                Due.is("hour " + hour + " from " + asked, x.guess(3, asked, 2, 2), ahead);
            }
        }
    }

    /** "winds round the card (4 at most)": each wind from each. */
    private static void roundTheCard() {
        for (int wind = 0; wind < 8; wind++) {
            CloudOffice x = new CloudOffice();
            x.row(3, 5, wind, 500);
            for (int asked = 0; asked < 8; asked++) {
                int ahead = 0;
                while ((wind + ahead) % 8 != asked && (asked + ahead) % 8 != wind) {
                    ahead++;
                }
                Due.is("wind " + wind + " from " + asked, x.guess(3, 5, asked, 2), ahead);
            }
        }
    }

    /** ".. together": 16 at most. */
    private static void bothTogether() {
        CloudOffice x = new CloudOffice();
        x.row(0, 0, 0, 1);
        int[][] turns = {{0, 0, 0}, {23, 7, 2}, {1, 1, 2}, {12, 4, 16}, {11, 4, 15}, {13, 4, 15}, {12, 3, 15}, {12, 5, 15},
            {13, 5, 14}};
        for (int[] turn : turns) {
            Due.is("hour " + turn[0] + ", wind " + turn[1], x.guess(0, turn[0], turn[1], 2), turn[2]);
        }
    }

    /** "those with the least distance: together by how many": on both sides of the hour and of the wind. */
    private static void nearestOnBothSides() {
        CloudOffice x = new CloudOffice();
        x.row(1, 23, 0, 100);
        x.row(1, 1, 0, 200);
        x.row(1, 0, 7, 300);
        x.row(1, 0, 1, 400);
        x.row(1, 1, 1, 90000);
        x.row(1, 2, 0, 90000);
        Due.is("guess", x.guess(1, 0, 0, 0), 250);
        Due.is("how many", x.guess(1, 0, 0, 1), 4);
        Due.is("distance", x.guess(1, 0, 0, 2), 1);
        x.row(1, 0, 0, 7);
        Due.is("one at no distance", x.guess(1, 0, 0, 0), 7);
        Due.is("how many", x.guess(1, 0, 0, 1), 1);
        Due.is("distance", x.guess(1, 0, 0, 2), 0);
        x.row(1, 0, 0, 8);
        Due.is("two at no distance, cut", x.guess(1, 0, 0, 0), 7);
        Due.is("how many", x.guess(1, 0, 0, 1), 2);
    }

    /** "(no gaps)": the nearest that has a height. */
    private static void gapsAreNoRows() {
        CloudOffice x = new CloudOffice();
        x.row(1, 6, 6, NONE);
        x.row(1, 7, 6, 50);
        x.row(1, 5, 6, NONE);
        Due.is("guess", x.guess(1, 6, 6, 0), 50);
        Due.is("how many", x.guess(1, 6, 6, 1), 1);
        Due.is("distance", x.guess(1, 6, 6, 2), 1);
        x.row(1, 6, 6, 0);
        Due.is("a height of 0 is a height", x.guess(1, 6, 6, 0), 0);
        Due.is("at no distance", x.guess(1, 6, 6, 2), 0);
    }

    /** "the nearest ROWS of that FORM". */
    private static void otherFormsAreNoRows() {
        CloudOffice x = new CloudOffice();
        for (int form = 0; form < 8; form++) {
            x.row(form, 3 * form, form, 100 * form);
        }
        for (int form = 0; form < 8; form++) {
            Due.is("form " + form, x.guess(form, 0, 0, 0), 100 * form);
            Due.is("how many of form " + form, x.guess(form, 0, 0, 1), 1);
        }
    }

    /** "together by how many, cut". */
    private static void cutMean() {
        int[][] turns = {{0, 1, 0}, {1, 1, 1}, {1, 2, 1}, {2, 2, 2}, {99999, 100000, 99999}, {100000, 100000, 100000}};
        for (int[] turn : turns) {
            CloudOffice x = new CloudOffice();
            x.row(0, 4, 4, turn[0]);
            x.row(0, 4, 4, turn[1]);
            Due.is(turn[0] + " and " + turn[1] + " by two", x.guess(0, 4, 4, 0), turn[2]);
        }
        CloudOffice y = new CloudOffice();
        y.row(0, 4, 4, 0);
        y.row(0, 4, 4, 1);
        y.row(0, 4, 4, 1);
        Due.is("2 by three", y.guess(0, 4, 4, 0), 0);
        y.row(0, 4, 4, 1);
        y.row(0, 4, 4, 2);
        Due.is("5 by five", y.guess(0, 4, 4, 0), 1);
    }

    /** "THE ORDER of FORMS (all 8, from the lowest)". */
    private static void orderOfAllEight() {
        CloudOffice x = new CloudOffice();
        int[] want = {5, 2, 7, 0, 3, 6, 1, 4};
        for (int i = 0; i < 7; i++) {
            x.under(want[i], want[i + 1]);
        }
        for (int place = 0; place < 8; place++) {
            Due.is("the form at " + place, x.order(place), want[place]);
        }
        Due.is("no quarrel", x.order(8), 0);
    }

    private static void oneNoteTurnsTheOrder() {
        CloudOffice x = new CloudOffice();
        x.under(0, 7);
        x.under(7, 0);
        Due.is("even: 0 is lower", x.order(0), 0);
        Due.is("even: one quarrels", x.order(8), 1);
        x.under(7, 0);
        Due.is("two to one: 1 is the lowest", x.order(0), 1);
        Due.is("two to one: 7 is under 0", x.order(6), 7);
        Due.is("two to one: 0 is the highest", x.order(7), 0);
        Due.is("two to one: one quarrels", x.order(8), 1);
        x.under(0, 7);
        Due.is("even again: 0 is lower", x.order(0), 0);
        Due.is("even again: two quarrel", x.order(8), 2);
    }

    /** "of like ones the first as a row". */
    private static void ofLikeOrdersTheFirst() {
        CloudOffice x = new CloudOffice();
        x.under(6, 1);
        int[] want = {0, 2, 3, 4, 5, 6, 1, 7};
        for (int place = 0; place < 8; place++) {
            Due.is("1 waits for 6: the form at " + place, x.order(place), want[place]);
        }
    }

    /** "QUARREL: NOTES that do not agree with it". */
    private static void quarrelOfRounds() {
        CloudOffice x = new CloudOffice();
        x.under(0, 1);
        x.under(1, 2);
        x.under(2, 0);
        Due.is("a round of three", x.order(8), 1);
        Due.is("the first that quarrels with one", x.order(0), 0);
        Due.is("then 1", x.order(1), 1);
        Due.is("then 2", x.order(2), 2);
        x.under(2, 0);
        Due.is("still one", x.order(8), 1);
        Due.is("now 1 is first", x.order(0), 1);
        Due.is("then 2", x.order(1), 2);
        Due.is("then 0", x.order(2), 0);
    }

    /** "How many: 0 EDGES of the first ..": each kind by itself. */
    private static void countsAreApart() {
        String[] names = {"edge", "edge", "layer", "sight", "shadow", "span", "pair", "row", "under"};
        int[][] numbers = {{0, 1, 1}, {1, 1, 1}, {5}, {0, 0, 0, 0}, {0, 0, 0, 0}, {1, 2, 3}, {1, 2, 3}, {1, 2, 3, 4}, {1, 2}};
        for (int kind = 0; kind <= 8; kind++) {
            CloudOffice x = new CloudOffice();
            Calls.answer(x, names[kind], numbers[kind]);
            Calls.answer(x, names[kind], numbers[kind]);
            for (int what = 0; what <= 8; what++) {
                Due.is("two of kind " + kind + ", count(" + what + ")", x.count(what), what == kind ? 2 : 0);
            }
        }
    }

    private static long mix(long... numbers) {
        long h = 317;
        for (long number : numbers) {
            h = 31 * h + number;
        }
        return h;
    }

    private static void digestHasAllInOrder() {
        CloudOffice x = new CloudOffice();
        x.base(10, 0);
        x.rules(1, 2, 3, 4);
        x.under(7, 6);
        x.row(5, 23, 4, NONE);
        x.pair(3, 2, -2000);
        x.span(8, 9, -10000);
        x.shadow(1, 1439, -1000000, 10000);
        x.sight(2, 1438, -20000, 20000);
        x.layer(100000);
        x.edge(1, -19999, 9);
        x.edge(0, 19998, 8);
        x.height(-3, -10, 1);
        Due.is("digest()", x.digest(), mix(1, 1, 1, 1, 1, 1, 1, 1, 1, 10, 0, 1, 2, 3, 4, 19998, 8, -19999, 9, 100000,
            2, 1438, -20000, 20000, 1, 1439, -1000000, 10000, 8, 9, -10000, 3, 2, -2000, 5, 23, 4, NONE, 7, 6, -30, 7));
    }

    /** Every number that is told is in the digest: one off by one makes another. */
    private static void digestTellsLinesApart() {
        String[] names = {"base", "edge", "layer", "rules", "sight", "shadow", "span", "pair", "row", "under", "height"};
        int[][] numbers = {{500, 6}, {0, 8, 2}, {5}, {5, 9, 3, 4}, {2, 3, 4, -5}, {2, 3, 4, 5}, {4, 8, 3}, {1, 4, 3}, {1, 2, 3, 4},
            {1, 4}, {8, -5, 0}};
        for (int i = 0; i < names.length; i++) {
            for (int place = 0; place < numbers[i].length; place++) {
                int[] other = numbers[i].clone();
                other[place]++;
                CloudOffice x = new CloudOffice();
                CloudOffice y = new CloudOffice();
                Calls.answer(x, names[i], numbers[i]);
                Calls.answer(y, names[i], other);
                Due.isTrue(Calls.text(names[i], numbers[i]) + " is not " + Calls.text(names[i], other),
                    x.digest() != y.digest());
            }
        }
    }
}
