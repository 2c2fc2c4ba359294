import java.math.BigInteger;
import java.util.ArrayList;
import java.util.Arrays;
import java.util.List;

/**
 * The document's words in their plainest and slowest form, to hold CloudOffice against: all rows, all orders and all
 * worsts are tried, and fractions are of any size.
 */
final class PlainOffice {
    static final String[] NAMES = {"base", "edge", "clear", "height", "part", "floor", "layer", "rules", "cost", "matched",
        "sight", "shadow", "speed", "shade", "agree", "balloon", "light", "span", "sweep", "must", "tilted", "pair", "worst",
        "bent", "row", "guess", "under", "order", "count", "digest"};

    record Ratio(BigInteger above, BigInteger below) {
        static Ratio of(long above, long below) {
            return lowest(BigInteger.valueOf(above), BigInteger.valueOf(below));
        }

        static Ratio lowest(BigInteger above, BigInteger below) {
            BigInteger divisor = above.gcd(below);
            return new Ratio(above.divide(divisor), below.divide(divisor));
        }

        Ratio times(Ratio o) {
            return lowest(above.multiply(o.above), below.multiply(o.below));
        }

        Ratio less(Ratio o) {
            return lowest(above.multiply(o.below).subtract(o.above.multiply(below)), below.multiply(o.below));
        }

        int compare(Ratio o) {
            return above.multiply(o.below).compareTo(o.above.multiply(below));
        }

        long down() {
            BigInteger[] parts = above.divideAndRemainder(below);
            return parts[0].longValueExact() - (parts[1].signum() < 0 ? 1 : 0);
        }
    }

    int base = 1000, slip = 5, low = 100, high = 20000, unlike = 50, alone = 100;
    Ratio fraction = Ratio.of(0, 1);
    final List<int[]> firsts = new ArrayList<>(), seconds = new ArrayList<>(), layers = new ArrayList<>(),
        sights = new ArrayList<>(), shadows = new ArrayList<>(), heights = new ArrayList<>(), pairs = new ArrayList<>(),
        rows = new ArrayList<>(), notes = new ArrayList<>();

    private static boolean in(int x, int least, int most) {
        return least <= x && x <= most;
    }

    private static boolean lean(int x) {
        return in(x, -20000, 20000);
    }

    private static boolean has(List<int[]> list, int i) {
        return in(i, 0, list.size() - 1);
    }

    private static int keep(List<int[]> list, int most, boolean number, int... line) {
        if (list.size() == most) {
            return -4;
        }
        list.add(line);
        return number ? list.size() - 1 : list.size();
    }

    private int put(Ratio ratio) {
        if (ratio == null) {
            return 0;
        }
        fraction = ratio;
        return 1;
    }

    long call(String name, int... numbers) {
        int[] a = Arrays.copyOf(numbers, 4);
        return call(Arrays.asList(NAMES).indexOf(name), a[0], a[1], a[2], a[3]);
    }

    long call(int method, int a, int b, int c, int d) {
        switch (NAMES[method]) {
            case "base":
                if (!in(a, 10, 100000) || !in(b, 0, 1000)) {
                    return -2;
                }
                base = a;
                slip = b;
                return 1;
            case "edge":
                return !in(a, 0, 1) || !lean(b) || !in(c, 0, 9) ? -2 : keep(a == 0 ? firsts : seconds, 8, false, b, c);
            case "clear":
                int gone = firsts.size() + seconds.size();
                firsts.clear();
                seconds.clear();
                return gone;
            case "height":
                return !lean(a) || !lean(b) || !in(c, 0, 3) ? -2 : put(heightOf(a, b, c));
            case "part":
                return a == 0 ? fraction.above.longValueExact()
                    : a == 1 ? fraction.below.longValueExact() : -9000000000000000000L;
            case "floor":
                return fraction.down();
            case "layer":
                return !in(a, 1, 100000) ? -2 : keep(layers, 6, false, a);
            case "rules":
                if (!in(a, 1, 100000) || !in(b, 1, 100000) || a > b || !in(c, 0, 1000) || !in(d, 0, 1000)) {
                    return -2;
                }
                low = a;
                high = b;
                unlike = c;
                alone = d;
                return 1;
            case "cost":
                return !has(firsts, a) || !has(seconds, b) ? -2 : costOf(a, b);
            case "matched":
                return a != -1 && !has(firsts, a) ? -10 : a == -1 ? allRows()[8] : allRows()[a];
            default:
                return callMore(NAMES[method], a, b, c, d);
        }
    }

    private long callMore(String name, int a, int b, int c, int d) {
        switch (name) {
            case "sight":
                return !in(a, 0, 7) || !in(b, 0, 1439) || !lean(c) || !lean(d) ? -2 : keep(sights, 40, true, a, b, c, d);
            case "shadow":
                return !in(a, 0, 7) || !in(b, 0, 1439) || !in(c, -1000000, 1000000) || !in(d, 0, 10000)
                    ? -2 : keep(shadows, 40, true, a, b, c, d);
            case "speed":
                return badTwo(sights, a, b) || !in(c, 0, 2) ? -2 : put(speedOf(true, a, b, c));
            case "shade":
                return badTwo(shadows, a, b) || !in(c, 0, 2) ? -2 : put(speedOf(false, a, b, c));
            case "agree":
                if (badTwo(sights, a, b) || badTwo(shadows, c, d) || sights.get(a)[0] != shadows.get(c)[0]) {
                    return -2;
                }
                if (speedOf(true, a, b, 1) == null || speedOf(true, a, b, 2) == null) {
                    return -3;
                }
                Ratio bottom = speedOf(true, a, b, 1), top = speedOf(true, a, b, 2);
                Ratio bottom2 = speedOf(false, c, d, 1), top2 = speedOf(false, c, d, 2);
                Ratio most = bottom.compare(bottom2) > 0 ? bottom : bottom2;
                Ratio least = top.compare(top2) < 0 ? top : top2;
                return most.compare(least) <= 0 ? 1 : 0;
            case "balloon":
                return !in(a, 1, 1000) || !in(b, 0, a - 1) || !in(c, 1, 1000) || !in(d, 0, 1)
                    ? -2 : d == 0 ? (a - b) * (c - 1) : (a + b) * c;
            case "light":
                return !in(a, 1, 100000) || !lean(b) ? -2 : put(b > 0 ? Ratio.of(1000L * a, b) : null);
            case "span":
                return !in(a, 0, 100000) || !in(b, 0, 100000) || a > b || !in(c, -10000, 10000)
                    ? -2 : keep(heights, 24, false, a, b, c);
            case "sweep":
                int gone = heights.size();
                heights.clear();
                return gone;
            case "must":
                if (!in(a, -50, 50) || b < -1) {
                    return -2000000;
                }
                List<Integer> found = layersBy(a);
                return b == -1 ? found.size() : b < found.size() ? found.get(b) : -1;
            case "tilted":
                return !in(a, 0, 1) ? -100 : a == 0 ? bestTilt() : layersBy(bestTilt()).size();
            default:
                return callLast(name, a, b, c, d);
        }
    }

    private long callLast(String name, int a, int b, int c, int d) {
        switch (name) {
            case "pair":
                return !in(a, 0, 5) || !in(b, 0, 5) || a == b || !in(c, -2000, 2000) ? -2 : keep(pairs, 40, false, a, b, c);
            case "worst":
                return boards()[6];
            case "bent":
                return !in(a, 0, 5) ? -100000 : a == 0 ? 0 : boards()[a];
            case "row":
                return !in(a, 0, 7) || !in(b, 0, 23) || !in(c, 0, 7) || !in(d, -1, 100000)
                    ? -2 : keep(rows, 200, true, a, b, c, d);
            case "guess":
                return !in(a, 0, 7) || !in(b, 0, 23) || !in(c, 0, 7) || !in(d, 0, 2) ? -2 : guessOf(a, b, c)[d];
            case "under":
                return !in(a, 0, 7) || !in(b, 0, 7) || a == b ? -2 : keep(notes, 100, false, a, b);
            case "order":
                return !in(a, 0, 8) ? -2 : orderOf()[a];
            case "count":
                return !in(a, 0, 8) ? -2 : all().get(a).size();
            default:
                return digestOf();
        }
    }

    private List<List<int[]>> all() {
        return List.of(firsts, seconds, layers, sights, shadows, heights, pairs, rows, notes);
    }

    private Ratio heightOf(int first, int second, int what) {
        int d = first - second;
        if (what == 0 || what == 1) {
            Ratio height = d > 0 ? Ratio.of(1000L * base, d) : null;
            return what == 0 || height == null ? height : height.times(Ratio.of(first, 1000));
        }
        if (what == 2) {
            return d + 2 * slip > 0 ? Ratio.of(1000L * base, d + 2 * slip) : null;
        }
        return d > 2 * slip ? Ratio.of(1000L * base, d - 2 * slip) : null;
    }

    private int costOf(int a, int b) {
        Ratio height = heightOf(firsts.get(a)[0], seconds.get(b)[0], 0);
        if (height == null || height.compare(Ratio.of(low, 1)) < 0 || height.compare(Ratio.of(high, 1)) > 0) {
            return -1;
        }
        int nearest = layers.isEmpty() ? 0 : Integer.MAX_VALUE;
        for (int[] layer : layers) {
            nearest = Math.min(nearest, Math.abs((int) height.down() - layer[0]));
        }
        return nearest + (firsts.get(a)[1] == seconds.get(b)[1] ? 0 : unlike);
    }

    /** Every row is tried as a row comes; the first with the least sum stays. Its sum is at 8. */
    private int[] allRows() {
        int[] best = new int[9];
        best[8] = Integer.MAX_VALUE;
        int[][] costs = new int[firsts.size()][seconds.size()];
        for (int i = 0; i < firsts.size(); i++) {
            for (int j = 0; j < seconds.size(); j++) {
                costs[i][j] = costOf(i, j);
            }
        }
        tryRows(0, new int[9], 0, 0, costs, best);
        return best;
    }

    private void tryRows(int i, int[] row, int used, int sum, int[][] costs, int[] best) {
        if (i == firsts.size()) {
            int whole = sum + alone * (seconds.size() - Integer.bitCount(used));
            if (whole < best[8]) {
                System.arraycopy(row, 0, best, 0, 8);
                best[8] = whole;
            }
            return;
        }
        row[i] = -1;
        tryRows(i + 1, row, used, sum + alone, costs, best);
        for (int j = 0; j < seconds.size(); j++) {
            if ((used & 1 << j) == 0 && costs[i][j] != -1) {
                row[i] = j;
                tryRows(i + 1, row, used | 1 << j, sum + costs[i][j], costs, best);
            }
        }
    }

    private static boolean badTwo(List<int[]> list, int a, int b) {
        return !has(list, a) || !has(list, b) || list.get(a)[0] != list.get(b)[0] || list.get(a)[1] == list.get(b)[1];
    }

    private Ratio speedOf(boolean bySight, int a, int b, int what) {
        List<int[]> list = bySight ? sights : shadows;
        int later = list.get(a)[1] > list.get(b)[1] ? a : b;
        int earlier = later == a ? b : a;
        Ratio[] one = bySight ? sightPlaces(list.get(later)) : shadowPlaces(list.get(later));
        Ratio[] other = bySight ? sightPlaces(list.get(earlier)) : shadowPlaces(list.get(earlier));
        Ratio to = one[what], from = other[what == 0 ? 0 : 3 - what];
        if (to == null || from == null) {
            return null;
        }
        return to.less(from).times(Ratio.of(1, list.get(later)[1] - list.get(earlier)[1]));
    }

    /** The place, its least, its greatest. */
    private Ratio[] sightPlaces(int[] sight) {
        Ratio[] places = {heightOf(sight[2], sight[3], 1), null, null};
        if (heightOf(sight[2], sight[3], 3) == null) {
            return places;
        }
        for (int end = 2; end <= 3; end++) {
            for (int side = -1; side <= 1; side += 2) {
                Ratio place = heightOf(sight[2], sight[3], end).times(Ratio.of(sight[2] + side * slip, 1000));
                places[1] = places[1] == null || place.compare(places[1]) < 0 ? place : places[1];
                places[2] = places[2] == null || place.compare(places[2]) > 0 ? place : places[2];
            }
        }
        return places;
    }

    private Ratio[] shadowPlaces(int[] shadow) {
        return new Ratio[] {Ratio.of(shadow[2], 1), Ratio.of(shadow[2] - shadow[3], 1), Ratio.of(shadow[2] + shadow[3], 1)};
    }

    /** Spans by their upper ends; a span without a layer gets its upper end. */
    private List<Integer> layersBy(int tilt) {
        List<int[]> spans = new ArrayList<>();
        for (int[] height : heights) {
            int down = tilt * height[2] / 1000;
            spans.add(new int[] {height[0] - down, height[1] - down});
        }
        spans.sort((p, q) -> Integer.compare(p[1], q[1]));
        List<Integer> found = new ArrayList<>();
        for (int[] span : spans) {
            boolean held = false;
            for (int layer : found) {
                held |= span[0] <= layer && layer <= span[1];
            }
            if (!held) {
                found.add(span[1]);
            }
        }
        return found;
    }

    private int bestTilt() {
        int best = 0;
        for (int t = -50; t <= 50; t++) {
            int one = layersBy(t).size(), other = layersBy(best).size();
            boolean smaller = Math.abs(t) < Math.abs(best) || Math.abs(t) == Math.abs(best) && t > best;
            if (one < other || one == other && smaller) {
                best = t;
            }
        }
        return best;
    }

    /** Bent boards, and the worst at 6: each worst from 0 on is tried, with ways between all watchers. */
    private int[] boards() {
        int[] answers = {0, -200000, -200000, -200000, -200000, -200000, -1};
        boolean[] joined = new boolean[6];
        joined[0] = true;
        for (int i = 0; i < 6; i++) {
            for (int[] pair : pairs) {
                joined[pair[0]] = joined[pair[1]] = joined[pair[0]] | joined[pair[1]];
            }
        }
        for (int[] pair : pairs) {
            if (!joined[pair[0]]) {
                return answers;
            }
        }
        if (pairs.isEmpty()) {
            return answers;
        }
        for (int worst = 0; ; worst++) {
            long[][] most = mostBetween(worst);
            boolean fits = true;
            for (int i = 0; i < 6; i++) {
                fits &= most[i][i] >= 0;
            }
            if (fits) {
                for (int i = 1; i < 6; i++) {
                    answers[i] = joined[i] ? (int) most[0][i] : -200000;
                }
                answers[6] = worst;
                return answers;
            }
        }
    }

    private long[][] mostBetween(int worst) {
        long far = 1000000000000L;
        long[][] most = new long[6][6];
        for (int i = 0; i < 6; i++) {
            for (int j = 0; j < 6; j++) {
                most[i][j] = i == j ? 0 : far;
            }
        }
        for (int[] p : pairs) {
            most[p[1]][p[0]] = Math.min(most[p[1]][p[0]], p[2] + worst);
            most[p[0]][p[1]] = Math.min(most[p[0]][p[1]], worst - p[2]);
        }
        for (int k = 0; k < 6; k++) {
            for (int i = 0; i < 6; i++) {
                for (int j = 0; j < 6; j++) {
                    most[i][j] = Math.min(most[i][j], most[i][k] + most[k][j]);
                }
            }
        }
        return most;
    }

    private int[] guessOf(int form, int hour, int wind) {
        for (int distance = 0; distance <= 16; distance++) {
            long sum = 0;
            int many = 0;
            for (int[] row : rows) {
                int hours = Math.min(Math.floorMod(row[1] - hour, 24), Math.floorMod(hour - row[1], 24));
                int winds = Math.min(Math.floorMod(row[2] - wind, 8), Math.floorMod(wind - row[2], 8));
                if (row[0] == form && row[3] != -1 && hours + winds == distance) {
                    sum += row[3];
                    many++;
                }
            }
            if (many > 0) {
                return new int[] {(int) (sum / many), many, distance};
            }
        }
        return new int[] {-1, 0, -1};
    }

    /** Every order is tried as a row comes; the first with the least quarrel stays. */
    private int[] orderOf() {
        int[][] votes = new int[8][8];
        for (int[] note : notes) {
            votes[note[0]][note[1]]++;
        }
        int[] best = new int[9];
        best[8] = Integer.MAX_VALUE;
        tryOrders(0, new int[8], 0, 0, votes, best);
        return best;
    }

    private void tryOrders(int i, int[] order, int used, int quarrel, int[][] votes, int[] best) {
        if (i == 8) {
            if (quarrel < best[8]) {
                System.arraycopy(order, 0, best, 0, 8);
                best[8] = quarrel;
            }
            return;
        }
        for (int form = 0; form < 8; form++) {
            if ((used & 1 << form) == 0) {
                order[i] = form;
                int more = 0;
                for (int j = 0; j < i; j++) {
                    more += votes[form][order[j]];
                }
                tryOrders(i + 1, order, used | 1 << form, quarrel + more, votes, best);
            }
        }
    }

    private long digestOf() {
        long h = 317;
        for (List<int[]> list : all()) {
            h = 31 * h + list.size();
        }
        for (int v : new int[] {base, slip, low, high, unlike, alone}) {
            h = 31 * h + v;
        }
        for (List<int[]> list : all()) {
            for (int[] line : list) {
                for (int v : line) {
                    h = 31 * h + v;
                }
            }
        }
        h = 31 * h + fraction.above.longValueExact();
        return 31 * h + fraction.below.longValueExact();
    }
}
