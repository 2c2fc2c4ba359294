import java.util.List;

/**
 * Each number of each call, in an office where something of each kind is there: the last number that is taken and the
 * first that is refused, on both sides, and numbers far beyond. What is taken is kept as the plain model keeps it; what
 * is refused changes nothing.
 */
public final class BoundsTest {
    private static final int BAD = CloudOffice.BAD;
    private static final List<String> BUSY = BusyOffice.picture(BusyOffice.make());

    /** Of a call that is as told, the number at a place may be from least to most; what is answered at both. */
    private record Bound(int place, int least, long atLeast, int most, long atMost) {
    }

    public static void main(String[] args) {
        twoEnds();
        speeds();
        layersAndBoards();
        years();
        Due.end();
    }

    private static Bound bound(int place, int least, long atLeast, int most, long atMost) {
        return new Bound(place, least, atLeast, most, atMost);
    }

    private static void twoEnds() {
        hold("base", BAD, asTold(1000, 5), bound(0, 10, 1, 100000, 1), bound(1, 0, 1, 1000, 1));
        hold("edge", BAD, asTold(0, 100, 3), bound(0, 0, 3, 1, 4), bound(1, -20000, 3, 20000, 3), bound(2, 0, 3, 9, 3));
        hold("height", BAD, asTold(100, -100, 0), bound(0, -20000, 0, 20000, 1), bound(1, -20000, 1, 20000, 0),
            bound(2, 0, 1, 3, 1));
        hold("part", -9000000000000000000L, asTold(0), bound(0, 0, -6000, 1, 7));
        hold("layer", BAD, asTold(500), bound(0, 1, 3, 100000, 3));
        hold("rules", BAD, asTold(200, 100000, 60, 70), bound(0, 1, 1, 100000, 1), bound(2, 0, 1, 1000, 1),
            bound(3, 0, 1, 1000, 1));
        hold("rules", BAD, asTold(1, 500, 60, 70), bound(0, 1, 1, 500, 1), bound(1, 1, 1, 100000, 1));
        hold("rules", BAD, asTold(200, 500, 60, 70), bound(0, 1, 1, 500, 1), bound(1, 200, 1, 100000, 1));
        hold("cost", BAD, asTold(1, 0), bound(0, 0, 200, 1, 88), bound(1, 0, 88, 2, 349));
        hold("matched", -10, asTold(0), bound(0, -1, 246, 1, 0));
    }

    private static void speeds() {
        hold("sight", BAD, asTold(3, 700, 50, -50), bound(0, 0, 5, 7, 5), bound(1, 0, 5, 1439, 5),
            bound(2, -20000, 5, 20000, 5), bound(3, -20000, 5, 20000, 5));
        hold("shadow", BAD, asTold(3, 700, 50, 5), bound(0, 0, 4, 7, 4), bound(1, 0, 4, 1439, 4),
            bound(2, -1000000, 4, 1000000, 4), bound(3, 0, 4, 10000, 4));
        hold("speed", BAD, asTold(1, 1, 0), bound(0, 0, 1, 4, 1), bound(1, 0, 1, 4, 1));
        hold("speed", BAD, asTold(1, 0, 0), bound(2, 0, 1, 2, 1));
        hold("shade", BAD, asTold(1, 1, 0), bound(0, 0, 1, 3, 1), bound(1, 0, 1, 3, 1));
        hold("shade", BAD, asTold(1, 0, 0), bound(2, 0, 1, 2, 1));
        hold("agree", BAD, asTold(1, 1, 0, 1), bound(0, 0, 1, 4, 0), bound(1, 0, 1, 4, 0));
        hold("agree", BAD, asTold(0, 1, 1, 1), bound(2, 0, 1, 3, 0), bound(3, 0, 1, 3, 0));
        hold("balloon", BAD, asTold(500, 0, 3, 0), bound(0, 1, 2, 1000, 2000), bound(1, 0, 1000, 499, 2),
            bound(2, 1, 0, 1000, 499500), bound(3, 0, 1000, 1, 1500));
        hold("balloon", BAD, asTold(1, 0, 3, 1), bound(1, 0, 3, 0, 3));
        hold("balloon", BAD, asTold(1000, 0, 3, 1), bound(1, 0, 3000, 999, 5997));
        hold("light", BAD, asTold(50, 7), bound(0, 1, 1, 100000, 1), bound(1, -20000, 0, 20000, 1));
    }

    private static void layersAndBoards() {
        hold("span", BAD, asTold(0, 100000, 3), bound(0, 0, 5, 100000, 5), bound(1, 0, 5, 100000, 5),
            bound(2, -10000, 5, 10000, 5));
        hold("span", BAD, asTold(500, 600, 3), bound(0, 0, 5, 600, 5), bound(1, 500, 5, 100000, 5));
        hold("must", -2000000, asTold(0, -1), bound(0, -50, 3, 50, 2));
        hold("must", -2000000, asTold(0, 0), bound(1, -1, 2, Integer.MAX_VALUE, -1));
        hold("tilted", -100, asTold(0), bound(0, 0, 0, 1, 2));
        hold("pair", BAD, asTold(3, 3, 7), bound(0, 0, 4, 5, 4), bound(1, 0, 4, 5, 4));
        hold("pair", BAD, asTold(3, 4, 7), bound(2, -2000, 4, 2000, 4));
        hold("bent", -100000, asTold(1), bound(0, 0, 0, 5, -200000));
    }

    private static void years() {
        hold("row", BAD, asTold(3, 3, 3, 3), bound(0, 0, 4, 7, 4), bound(1, 0, 4, 23, 4), bound(2, 0, 4, 7, 4),
            bound(3, -1, 4, 100000, 4));
        hold("guess", BAD, asTold(2, 0, 0, 0), bound(0, 0, -1, 7, -1), bound(1, 0, 1201, 23, 1000),
            bound(2, 0, 1201, 7, 1000), bound(3, 0, 1201, 2, 1));
        hold("under", BAD, asTold(3, 3), bound(0, 0, 4, 7, 4), bound(1, 0, 4, 7, 4));
        hold("order", BAD, asTold(0), bound(0, 0, 0, 8, 1));
        hold("count", BAD, asTold(0), bound(0, 0, 2, 8, 3));
    }

    private static int[] asTold(int... numbers) {
        return numbers;
    }

    private static void hold(String name, long bad, int[] asTold, Bound... bounds) {
        for (Bound bound : bounds) {
            taken(name, with(asTold, bound.place, bound.least), bound.atLeast);
            taken(name, with(asTold, bound.place, bound.most), bound.atMost);
            refused(name, bad, asTold, bound.place, bound.least - 1);
            refused(name, bad, asTold, bound.place, Integer.MIN_VALUE);
            // every number is taken by a call whose most is the greatest there is
            if (bound.most != Integer.MAX_VALUE) {
                refused(name, bad, asTold, bound.place, bound.most + 1);
                refused(name, bad, asTold, bound.place, Integer.MAX_VALUE);
            }
        }
    }

    private static int[] with(int[] asTold, int place, int number) {
        int[] numbers = asTold.clone();
        numbers[place] = number;
        return numbers;
    }

    private static void taken(String name, int[] numbers, long want) {
        CloudOffice x = BusyOffice.make();
        PlainOffice plain = BusyOffice.makePlain();
        String call = Calls.text(name, numbers);
        Due.is(call, Calls.answer(x, name, numbers), want);
        plain.call(name, numbers);
        Due.is(call + ", then digest()", x.digest(), plain.call("digest"));
    }

    private static void refused(String name, long bad, int[] asTold, int place, int number) {
        BusyOffice.refuses(BusyOffice.make(), BUSY, bad, name, with(asTold, place, number));
    }
}
