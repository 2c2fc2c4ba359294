/** Where promises 19 to 25 turn from one answer to another: each sentence with both sides of its turn. */
public final class LayersTurnsTest {
    private static final int NONE = CloudOffice.NONE;
    private static final int NO = -200000;

    public static void main(String[] args) {
        spansThatTouch();
        spansOfOneNumber();
        theGreatestThatMayBe();
        theIthLayer();
        broughtDown();
        cutTowardNothing();
        tiltAndPlaceAtTheirFurthest();
        tiltTurnsLayers();
        theFewestOverAllTilts();
        leastSizeThenAboveNothing();
        tiltsEnd();
        onePair();
        furthestChain();
        halvesAreWhole();
        greatestForEach();
        rounds();
        joinedToWatcherNothing();
        othersAreNone();
        Due.end();
    }

    private static CloudOffice sky(int[]... spans) {
        CloudOffice x = new CloudOffice();
        for (int[] s : spans) {
            x.span(s[0], s[1], s[2]);
        }
        return x;
    }

    private static int[] at(int low, int high, int place) {
        return new int[] {low, high, place};
    }

    private static void layers(String saying, CloudOffice x, int tilt, int... want) {
        Due.is(saying + ", how many", x.must(tilt, -1), want.length);
        for (int i = 0; i < want.length; i++) {
            Due.is(saying + ", number " + i, x.must(tilt, i), want[i]);
        }
        Due.is(saying + ", not so many", x.must(tilt, want.length), NONE);
    }

    /** "each span has one of them": its ends are in it. */
    private static void spansThatTouch() {
        layers("they touch", sky(at(10, 20, 0), at(20, 30, 0)), 0, 20);
        layers("they touch, told the other way", sky(at(20, 30, 0), at(10, 20, 0)), 0, 20);
        layers("they miss each other by 1", sky(at(10, 20, 0), at(21, 30, 0)), 0, 20, 30);
        layers("they lap over by 1", sky(at(10, 20, 0), at(19, 30, 0)), 0, 20);
        layers("one in the other", sky(at(10, 20, 0), at(0, 100, 0)), 0, 20);
        layers("the same again", sky(at(10, 20, 0), at(10, 20, 0), at(10, 20, 0)), 0, 20);
    }

    private static void spansOfOneNumber() {
        layers("one number", sky(at(7, 7, 0)), 0, 7);
        layers("one number at an upper end", sky(at(7, 7, 0), at(0, 7, 0)), 0, 7);
        layers("one number at a lower end", sky(at(7, 7, 0), at(7, 9, 0)), 0, 7);
        layers("one number above", sky(at(7, 7, 0), at(0, 6, 0)), 0, 6, 7);
        layers("0 and 100000", sky(at(0, 0, 0), at(100000, 100000, 0)), 0, 0, 100000);
        layers("all there is", sky(at(0, 100000, 0)), 0, 100000);
    }

    /** "each of them is the greatest that may be, from the lowest on". */
    private static void theGreatestThatMayBe() {
        layers("not 5, nor 9", sky(at(0, 10, 0), at(5, 20, 0)), 0, 10);
        layers("the lowest first", sky(at(0, 10, 0), at(8, 12, 0), at(11, 30, 0)), 0, 10, 30);
        layers("the last is its own", sky(at(0, 10, 0), at(10, 12, 0), at(11, 30, 0), at(12, 13, 0)), 0, 10, 13);
    }

    /** "the i-th (what = i). NONE: not so many". */
    private static void theIthLayer() {
        CloudOffice x = sky(at(1, 2, 0), at(4, 5, 0));
        Due.is("the last", x.must(0, 1), 5);
        Due.is("one more", x.must(0, 2), NONE);
        Due.is("as many as spans may be", x.must(0, 23), NONE);
        Due.is("beyond", x.must(0, 24), NONE);
        Due.is("far beyond", x.must(0, Integer.MAX_VALUE), NONE);
        Due.is("how many", x.must(0, -1), 2);
        Due.is("before NONE", x.must(0, -2), -2000000);
        // a layer may be at -1, which is no NONE
        layers("brought to -1 and -2", sky(at(0, 0, 1000), at(0, 0, 2000)), 1, -2, -1);
    }

    /** "each span is brought down by t times x by 1000". */
    private static void broughtDown() {
        CloudOffice x = sky(at(100, 200, 3000));
        layers("tilt 7", x, 7, 179);
        layers("tilt -7", x, -7, 221);
        layers("tilt 0", x, 0, 200);
        CloudOffice y = sky(at(100, 200, -3000));
        layers("tilt 7, behind", y, 7, 221);
        layers("tilt -7, behind", y, -7, 179);
        Due.is("the span is kept as it was told", x.digest(), sky(at(100, 200, 3000)).digest());
    }

    /** "cut toward 0". */
    private static void cutTowardNothing() {
        int[][] turns = {{999, 0}, {1000, 1}, {1001, 1}, {1999, 1}, {2000, 2}, {1, 0}, {0, 0}};
        for (int[] turn : turns) {
            CloudOffice ahead = sky(at(100, 200, turn[0]));
            CloudOffice behind = sky(at(100, 200, -turn[0]));
            layers(turn[0] + " by 1000", ahead, 1, 200 - turn[1]);
            layers(-turn[0] + " by 1000", ahead, -1, 200 + turn[1]);
            layers(-turn[0] + " by 1000", behind, 1, 200 + turn[1]);
            layers(turn[0] + " by 1000", behind, -1, 200 - turn[1]);
        }
        layers("both ends by the same", sky(at(100, 200, 999), at(201, 201, 1000)), 1, 200);
        layers("and not by more", sky(at(100, 200, 1000), at(200, 201, 999)), 1, 199, 201);
    }

    private static void tiltAndPlaceAtTheirFurthest() {
        layers("down to -500", sky(at(0, 0, 10000)), 50, -500);
        layers("up to 500", sky(at(0, 0, 10000)), -50, 500);
        layers("up to 100500", sky(at(100000, 100000, -10000)), 50, 100500);
        layers("from -500 to 100500", sky(at(100000, 100000, -10000), at(0, 0, 10000)), 50, -500, 100500);
    }

    private static void tiltTurnsLayers() {
        CloudOffice x = sky(at(100, 110, 0), at(130, 140, 1000));
        layers("tilt 19", x, 19, 110, 121);
        layers("tilt 20", x, 20, 110);
        layers("tilt 40", x, 40, 100);
        layers("tilt 41", x, 41, 99, 110);
    }

    /** "the fewest over all t". */
    private static void theFewestOverAllTilts() {
        tilted("flat is best", sky(at(100, 110, 0), at(105, 120, 1000)), 0, 1);
        tilted("20 is the least that joins", sky(at(100, 110, 0), at(130, 140, 1000)), 20, 1);
        tilted("three at once by 30", sky(at(100, 100, 0), at(130, 130, 1000), at(160, 160, 2000)), 30, 1);
        tilted("no tilt joins any", sky(at(100, 100, 0), at(200, 200, 0)), 0, 2);
        tilted("two of three, and all three further on", sky(at(0, 0, 0), at(10, 40, 1000), at(60, 100, 2000)), 30, 1);
    }

    private static void tilted(String saying, CloudOffice x, int tilt, int many) {
        Due.is(saying + ", the tilt", x.tilted(0), tilt);
        Due.is(saying + ", how many", x.tilted(1), many);
        Due.is(saying + ", as many as must", x.must(tilt, -1), many);
    }

    /** "of like ones the t of the least size, of these the one above 0". */
    private static void leastSizeThenAboveNothing() {
        tilted("3 and -3", sky(at(0, 0, 1000), at(3, 3, 0), at(6, 6, 1000)), 3, 2);
        tilted("-3 and 4", sky(at(0, 0, 1000), at(3, 3, 0), at(7, 7, 1000)), -3, 2);
        tilted("-4 and 3", sky(at(0, 0, 1000), at(4, 4, 0), at(7, 7, 1000)), 3, 2);
        tilted("1 and -1", sky(at(9, 9, 1000), at(10, 10, 0), at(11, 11, 1000)), 1, 2);
        tilted("50 and -50", sky(at(0, 0, 1000), at(50, 50, 0), at(100, 100, 1000)), 50, 2);
        tilted("-49 and 50", sky(at(0, 0, 1000), at(49, 49, 0), at(99, 99, 1000)), -49, 2);
        tilted("fewer comes ahead of size", sky(at(0, 0, 0), at(2, 2, 1000), at(40, 40, 1000), at(80, 80, 2000)), 40, 2);
    }

    /** "a tilt t (-50 .. 50". */
    private static void tiltsEnd() {
        tilted("50 is taken", sky(at(0, 0, 0), at(50, 50, 1000)), 50, 1);
        tilted("51 is not", sky(at(0, 0, 0), at(51, 51, 1000)), 0, 2);
        tilted("-50 is taken", sky(at(0, 0, 0), at(50, 50, -1000)), -50, 1);
        tilted("-51 is not", sky(at(0, 0, 0), at(51, 51, -1000)), 0, 2);
    }

    private static CloudOffice boards(int[]... pairs) {
        CloudOffice x = new CloudOffice();
        for (int[] p : pairs) {
            x.pair(p[0], p[1], p[2]);
        }
        return x;
    }

    private static void bents(String saying, CloudOffice x, int worst, int... want) {
        Due.is(saying + ", worst", x.worst(), worst);
        for (int watcher = 0; watcher < 6; watcher++) {
            Due.is(saying + ", bent " + watcher, x.bent(watcher), want[watcher]);
        }
    }

    /** "what the first read less what the second did". */
    private static void onePair() {
        bents("0 less 1", boards(at(0, 1, 2000)), 0, 0, -2000, NO, NO, NO, NO);
        bents("0 less 1", boards(at(0, 1, -2000)), 0, 0, 2000, NO, NO, NO, NO);
        bents("1 less 0", boards(at(1, 0, 2000)), 0, 0, 2000, NO, NO, NO, NO);
        bents("5 less 0", boards(at(5, 0, -2000)), 0, 0, NO, NO, NO, NO, -2000);
        bents("not bent", boards(at(5, 0, 0)), 0, 0, NO, NO, NO, NO, 0);
    }

    private static void furthestChain() {
        bents("up", boards(at(1, 0, 2000), at(2, 1, 2000), at(3, 2, 2000), at(4, 3, 2000), at(5, 4, 2000)), 0, 0, 2000, 4000,
            6000, 8000, 10000);
        bents("down", boards(at(0, 1, 2000), at(1, 2, 2000), at(2, 3, 2000), at(3, 4, 2000), at(4, 5, 2000)), 0, 0, -2000, -4000,
            -6000, -8000, -10000);
        bents("told from its end", boards(at(5, 4, 2000), at(4, 3, 2000), at(3, 2, 2000), at(2, 1, 2000), at(1, 0, 2000)), 0, 0,
            2000, 4000, 6000, 8000, 10000);
        bents("the greatest worst, and a chain of it", boards(at(1, 0, 2000), at(1, 0, -2000), at(2, 1, 2000), at(3, 2, 2000),
            at(4, 3, 2000), at(5, 4, 2000)), 2000, 0, 0, 4000, 8000, 12000, 16000);
    }

    /** "whole numbers for all": the worst of an odd gap is its greater half. */
    private static void halvesAreWhole() {
        bents("gap 0", boards(at(1, 0, 7), at(1, 0, 7)), 0, 0, 7, NO, NO, NO, NO);
        bents("gap 1", boards(at(1, 0, 7), at(1, 0, 8)), 1, 0, 8, NO, NO, NO, NO);
        bents("gap 2", boards(at(1, 0, 7), at(1, 0, 9)), 1, 0, 8, NO, NO, NO, NO);
        bents("gap 3", boards(at(1, 0, 7), at(1, 0, 10)), 2, 0, 9, NO, NO, NO, NO);
        bents("gap 3 below 0", boards(at(1, 0, -7), at(1, 0, -10)), 2, 0, -8, NO, NO, NO, NO);
        bents("turned round", boards(at(1, 0, 5), at(0, 1, -5), at(0, 1, -6)), 1, 0, 6, NO, NO, NO, NO);
        bents("the greatest gap", boards(at(1, 0, 2000), at(1, 0, -2000)), 2000, 0, 0, NO, NO, NO, NO);
        bents("one less", boards(at(1, 0, 2000), at(1, 0, -1999)), 2000, 0, 1, NO, NO, NO, NO);
        bents("two less", boards(at(1, 0, 2000), at(1, 0, -1998)), 1999, 0, 1, NO, NO, NO, NO);
    }

    /** "of all such the greatest for each". */
    private static void greatestForEach() {
        bents("2 may be off by the worst", boards(at(1, 0, 0), at(1, 0, 4), at(2, 0, 0)), 2, 0, 2, 2, NO, NO, NO);
        bents("3 by twice the worst", boards(at(1, 0, 0), at(1, 0, 4), at(2, 0, 0), at(3, 2, 0)), 2, 0, 2, 2, 4, NO, NO);
        bents("the nearer way is narrower", boards(at(1, 0, 0), at(1, 0, 4), at(2, 0, 0), at(3, 2, 0), at(3, 0, 0)), 2, 0, 2, 2,
            2, NO, NO);
    }

    /** Rounds of three: what does not close is spread over them. */
    private static void rounds() {
        bents("closes", boards(at(0, 1, 1), at(1, 2, 1), at(2, 0, -2)), 0, 0, -1, -2, NO, NO, NO);
        bents("off by 3", boards(at(0, 1, 0), at(1, 2, 0), at(2, 0, 3)), 1, 0, 1, 2, NO, NO, NO);
        bents("off by 4", boards(at(0, 1, 0), at(1, 2, 0), at(2, 0, 4)), 2, 0, 2, 4, NO, NO, NO);
        bents("off by 6000", boards(at(0, 1, 2000), at(1, 2, 2000), at(2, 0, 2000)), 2000, 0, 0, 0, NO, NO, NO);
    }

    /** "Only if PAIRS join all WATCHERS that are in any PAIR to WATCHER 0". */
    private static void joinedToWatcherNothing() {
        CloudOffice x = boards(at(1, 2, 7));
        bents("0 is in no pair", x, NONE, 0, NO, NO, NO, NO, NO);
        x.pair(3, 0, 5);
        bents("0 is joined to 3 alone", x, NONE, 0, NO, NO, NO, NO, NO);
        x.pair(4, 5, 1);
        bents("three that are apart", x, NONE, 0, NO, NO, NO, NO, NO);
        x.pair(2, 3, 1);
        bents("4 and 5 are apart", x, NONE, 0, NO, NO, NO, NO, NO);
        x.pair(5, 1, 2);
        bents("all are joined", x, 0, 0, 13, 6, 5, 16, 15);
    }

    /** "others are none": those in no PAIR. */
    private static void othersAreNone() {
        CloudOffice x = boards(at(2, 0, 7), at(4, 2, 1));
        bents("1, 3 and 5", x, 0, 0, NO, 7, NO, 8, NO);
        x.pair(5, 4, -8);
        bents("1 and 3", x, 0, 0, NO, 7, NO, 8, 0);
    }
}
