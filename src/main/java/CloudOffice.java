/** How high is that cloud: heights, speeds, layers and bent boards from what two watchers call by wire. */
public final class CloudOffice {
    public static final int NONE = -1, BAD = -2, NO = -3, FULL = -4;

    private static final long PART_BAD = -9000000000000000000L;
    private static final int MATCHED_BAD = -10;
    private static final int MUST_BAD = -2000000;
    private static final int TILTED_BAD = -100;
    private static final int BENT_BAD = -100000;
    private static final int BENT_NO = -200000;

    private static final int MOST_LEAN = 20000;
    private static final int MOST_HEIGHT = 100000;
    private static final int MOST_TILT = 50;
    private static final int MOST_DIFFERENCE = 2000;
    private static final int EDGES = 8;
    private static final int HEIGHTS = 24;
    private static final int WATCHERS = 6;
    private static final int FORMS = 8;

    private final Fraction fraction;
    private final Settings settings;
    private final Table firstEdges;
    private final Table secondEdges;
    private final Table layers;
    private final Table sights;
    private final Table shadows;
    private final Table heights;
    private final Table pairs;
    private final Table rows;
    private final Table notes;
    private final Matching matching;
    private final Speeds speeds;
    private final Layering layering;
    private final Boards boards;
    private final Years years;
    private final Sheets sheets;

    public CloudOffice() {
        fraction = new Fraction();
        settings = new Settings();
        firstEdges = new Table(2, EDGES);
        secondEdges = new Table(2, EDGES);
        layers = new Table(1, 6);
        sights = new Table(4, 40);
        shadows = new Table(4, 40);
        heights = new Table(3, HEIGHTS);
        pairs = new Table(3, 40);
        rows = new Table(4, 200);
        notes = new Table(2, 100);
        matching = new Matching(settings, firstEdges, secondEdges, layers);
        speeds = new Speeds(settings, sights, shadows);
        layering = new Layering(heights);
        boards = new Boards(pairs);
        years = new Years(rows);
        sheets = new Sheets(notes);
    }

    // ---- two ends

    public int base(int base, int slip) {
        if (!isWithin(base, 10, 100000) || !isWithin(slip, 0, 1000)) {
            return BAD;
        }
        settings.base = base;
        settings.slip = slip;
        return 1;
    }

    public int edge(int watcher, int lean, int word) {
        if (!isWithin(watcher, 0, 1) || !isLean(lean) || !isWithin(word, 0, 9)) {
            return BAD;
        }
        Table edges = watcher == 0 ? firstEdges : secondEdges;
        return edges.add(lean, word, 0, 0);
    }

    public int clear() {
        return firstEdges.empty() + secondEdges.empty();
    }

    public int height(int first, int second, int what) {
        if (!isLean(first) || !isLean(second) || !isWithin(what, 0, 3)) {
            return BAD;
        }
        long gap = first - second;
        if (what == 2) {
            gap += 2L * settings.slip;
        } else if (what == 3) {
            gap -= 2L * settings.slip;
        }
        if (gap <= 0) {
            return 0;
        }
        long above = settings.base * (what == 1 ? (long) first : 1000L);
        fraction.put(above, gap);
        return 1;
    }

    public long part(int what) {
        if (what == 0) {
            return fraction.above;
        }
        return what == 1 ? fraction.below : PART_BAD;
    }

    public long floor() {
        return fraction.cutDown();
    }

    public int layer(int height) {
        if (!isWithin(height, 1, MOST_HEIGHT)) {
            return BAD;
        }
        return layers.add(height, 0, 0, 0);
    }

    public int rules(int low, int high, int unlike, int alone) {
        if (!isWithin(low, 1, MOST_HEIGHT) || !isWithin(high, low, MOST_HEIGHT)) {
            return BAD;
        }
        if (!isWithin(unlike, 0, 1000) || !isWithin(alone, 0, 1000)) {
            return BAD;
        }
        settings.low = low;
        settings.high = high;
        settings.unlike = unlike;
        settings.alone = alone;
        return 1;
    }

    public int cost(int first, int second) {
        if (!firstEdges.has(first) || !secondEdges.has(second)) {
            return BAD;
        }
        return matching.costOf(first, second);
    }

    public int matched(int what) {
        if (what == NONE) {
            return matching.sumOf(matching.bestKey());
        }
        if (!firstEdges.has(what)) {
            return MATCHED_BAD;
        }
        return matching.partnerOf(matching.bestKey(), what);
    }

    // ---- speeds

    public int sight(int puff, int minute, int first, int second) {
        if (!isPuffAndMinute(puff, minute) || !isLean(first) || !isLean(second)) {
            return BAD;
        }
        return sights.addNumbered(puff, minute, first, second);
    }

    public int shadow(int puff, int minute, int place, int error) {
        if (!isPuffAndMinute(puff, minute) || !isWithin(place, -1000000, 1000000) || !isWithin(error, 0, 10000)) {
            return BAD;
        }
        return shadows.addNumbered(puff, minute, place, error);
    }

    public int speed(int a, int b, int what) {
        if (!Speeds.areOfOnePuff(sights, a, b) || !isWithin(what, 0, 2)) {
            return BAD;
        }
        return speeds.putSightSpeed(a, b, what, fraction) ? 1 : 0;
    }

    public int shade(int a, int b, int what) {
        if (!Speeds.areOfOnePuff(shadows, a, b) || !isWithin(what, 0, 2)) {
            return BAD;
        }
        speeds.putShadowSpeed(a, b, what, fraction);
        return 1;
    }

    public int agree(int a, int b, int c, int d) {
        if (!Speeds.areOfOnePuff(sights, a, b) || !Speeds.areOfOnePuff(shadows, c, d)) {
            return BAD;
        }
        if (sights.at(a, Speeds.PUFF) != shadows.at(c, Speeds.PUFF)) {
            return BAD;
        }
        if (!speeds.haveSpan(a, b)) {
            return NO;
        }
        return speeds.spansMeet(a, b, c, d) ? 1 : 0;
    }

    public int balloon(int r, int e, int m, int what) {
        if (!isWithin(r, 1, 1000) || !isWithin(e, 0, r - 1)) {
            return BAD;
        }
        if (!isWithin(m, 1, 1000) || !isWithin(what, 0, 1)) {
            return BAD;
        }
        return what == 0 ? (r - e) * (m - 1) : (r + e) * m;
    }

    public int light(int w, int lean) {
        if (!isWithin(w, 1, 100000) || !isLean(lean)) {
            return BAD;
        }
        if (lean <= 0) {
            return 0;
        }
        fraction.put(1000L * w, lean);
        return 1;
    }

    // ---- layers, bent boards

    public int span(int low, int high, int x) {
        if (!isWithin(low, 0, MOST_HEIGHT) || !isWithin(high, low, MOST_HEIGHT) || !isWithin(x, -10000, 10000)) {
            return BAD;
        }
        return heights.add(low, high, x, 0);
    }

    public int sweep() {
        return heights.empty();
    }

    public int must(int tilt, int what) {
        if (!isWithin(tilt, -MOST_TILT, MOST_TILT) || what < NONE) {
            return MUST_BAD;
        }
        int many = layering.fill(tilt, HEIGHTS);
        if (what == NONE) {
            return many;
        }
        return what < many ? layering.layerAt(what) : NONE;
    }

    public int tilted(int what) {
        if (!isWithin(what, 0, 1)) {
            return TILTED_BAD;
        }
        int tilt = layering.bestTilt();
        return what == 0 ? tilt : layering.fill(tilt, HEIGHTS);
    }

    public int pair(int first, int second, int difference) {
        if (!isWithin(first, 0, WATCHERS - 1) || !isWithin(second, 0, WATCHERS - 1) || first == second) {
            return BAD;
        }
        if (!isWithin(difference, -MOST_DIFFERENCE, MOST_DIFFERENCE)) {
            return BAD;
        }
        return pairs.add(first, second, difference, 0);
    }

    public int worst() {
        return boards.leastWorst();
    }

    public int bent(int watcher) {
        if (!isWithin(watcher, 0, WATCHERS - 1)) {
            return BENT_BAD;
        }
        if (watcher == 0) {
            return 0;
        }
        // leastWorst leaves the greatest row behind, which isJoined and bentOf read
        if (boards.leastWorst() == NONE || !boards.isJoined(watcher)) {
            return BENT_NO;
        }
        return boards.bentOf(watcher);
    }

    // ---- years

    public int row(int form, int hour, int wind, int height) {
        if (!isFormHourWind(form, hour, wind) || !isWithin(height, NONE, MOST_HEIGHT)) {
            return BAD;
        }
        return rows.addNumbered(form, hour, wind, height);
    }

    public int guess(int form, int hour, int wind, int what) {
        if (!isFormHourWind(form, hour, wind) || !isWithin(what, 0, 2)) {
            return BAD;
        }
        years.look(form, hour, wind);
        if (what == 0) {
            return years.mean();
        }
        return what == 1 ? years.many : years.distance;
    }

    public int under(int low, int high) {
        if (!isForm(low) || !isForm(high) || low == high) {
            return BAD;
        }
        return notes.add(low, high, 0, 0);
    }

    public int order(int what) {
        if (!isWithin(what, 0, FORMS)) {
            return BAD;
        }
        long key = sheets.bestKey();
        return what == FORMS ? sheets.quarrelOf(key) : sheets.formAt(key, what);
    }

    public int count(int what) {
        switch (what) {
            case 0: return firstEdges.size();
            case 1: return secondEdges.size();
            case 2: return layers.size();
            case 3: return sights.size();
            case 4: return shadows.size();
            case 5: return heights.size();
            case 6: return pairs.size();
            case 7: return rows.size();
            case 8: return notes.size();
            default: return BAD;
        }
    }

    public long digest() {
        long h = 317;
        for (int what = 0; what <= 8; what++) {
            h = 31 * h + count(what);
        }
        h = settings.mixInto(h);
        h = firstEdges.mixInto(h);
        h = secondEdges.mixInto(h);
        h = layers.mixInto(h);
        h = sights.mixInto(h);
        h = shadows.mixInto(h);
        h = heights.mixInto(h);
        h = pairs.mixInto(h);
        h = rows.mixInto(h);
        h = notes.mixInto(h);
        return fraction.mixInto(h);
    }

    private static boolean isWithin(int number, int least, int greatest) {
        return number >= least && number <= greatest;
    }

    private static boolean isLean(int lean) {
        return isWithin(lean, -MOST_LEAN, MOST_LEAN);
    }

    private static boolean isForm(int form) {
        return isWithin(form, 0, FORMS - 1);
    }

    private static boolean isPuffAndMinute(int puff, int minute) {
        return isWithin(puff, 0, 7) && isWithin(minute, 0, 1439);
    }

    private static boolean isFormHourWind(int form, int hour, int wind) {
        return isForm(form) && isWithin(hour, 0, 23) && isWithin(wind, 0, 7);
    }

    /** A fraction in lowest terms, below above 0. */
    private static final class Fraction {
        // Euclid's way needs at most 92 steps for any two longs
        private static final int MOST_STEPS = 100;

        private long above;
        private long below;

        Fraction() {
            above = 0;
            below = 1;
        }

        void put(long newAbove, long newBelow) {
            if (newBelow <= 0) {
                return;
            }
            long divisor = commonDivisor(Math.abs(newAbove), newBelow);
            if (divisor <= 0) {
                return;
            }
            above = newAbove / divisor;
            below = newBelow / divisor;
        }

        private static long commonDivisor(long a, long b) {
            long larger = a;
            long smaller = b;
            for (int step = 0; step < MOST_STEPS && smaller != 0; step++) {
                long rest = larger % smaller;
                larger = smaller;
                smaller = rest;
            }
            return larger;
        }

        long cutDown() {
            return below == 0 ? 0 : Math.floorDiv(above, below);
        }

        /** The greatest product here, of a shadow's way by a sight's below, stays under 2020000 * 42000 * 42000 * 1439 and so in a long. */
        boolean isAtMost(Fraction other) {
            return above * other.below <= other.above * below;
        }

        long mixInto(long h) {
            return 31 * (31 * h + above) + below;
        }
    }

    /** What the office goes by until it is told otherwise. */
    private static final class Settings {
        private int base;
        private int slip;
        private int low;
        private int high;
        private int unlike;
        private int alone;

        Settings() {
            base = 1000;
            slip = 5;
            low = 100;
            high = 20000;
            unlike = 50;
            alone = 100;
        }

        long mixInto(long start) {
            long h = start;
            h = 31 * h + base;
            h = 31 * h + slip;
            h = 31 * h + low;
            h = 31 * h + high;
            h = 31 * h + unlike;
            return 31 * h + alone;
        }
    }

    /** Lines of up to four numbers, kept as they come, in a row made once. */
    private static final class Table {
        private final int width;
        private final int most;
        private final int[] cells;
        private int lines;

        Table(int width, int most) {
            this.width = width;
            this.most = most;
            cells = new int[Math.max(0, width * most)];
            lines = 0;
        }

        int size() {
            return lines;
        }

        boolean has(int line) {
            return line >= 0 && line < lines;
        }

        int at(int line, int column) {
            int place = line * width + column;
            return place >= 0 && place < cells.length ? cells[place] : 0;
        }

        /** How many lines there are then, or FULL. */
        int add(int a, int b, int c, int d) {
            if (lines >= most) {
                return FULL;
            }
            put(0, a);
            put(1, b);
            put(2, c);
            put(3, d);
            lines++;
            return lines;
        }

        /** The new line's number, or FULL. */
        int addNumbered(int a, int b, int c, int d) {
            int answer = add(a, b, c, d);
            return answer == FULL ? FULL : answer - 1;
        }

        private void put(int column, int number) {
            int place = lines * width + column;
            if (column < width && place >= 0 && place < cells.length) {
                cells[place] = number;
            }
        }

        int empty() {
            int gone = lines;
            lines = 0;
            return gone;
        }

        long mixInto(long start) {
            long h = start;
            int filled = Math.min(lines * width, cells.length);
            for (int place = 0; place < filled; place++) {
                h = 31 * h + cells[place];
            }
            return h;
        }
    }

    /**
     * Edges of both watchers matched. A key is a sum and a row of partners in one number: the sum above 32 bits, then
     * 4 bits for each edge of the first (0 is NONE, else the partner's number and 1), so that the least key is the
     * least sum with the first row.
     */
    private static final class Matching {
        private static final int LEAN = 0;
        private static final int WORD = 1;
        private static final int SETS = 1 << EDGES;
        private static final int SUM_SHIFT = 4 * EDGES;
        // above every key: sums stay under 2000000, which takes 21 bits
        private static final long UNREACHED = 1L << 60;

        private final Settings settings;
        private final Table first;
        private final Table second;
        private final Table layers;
        private final int[] costs;
        private final long[] keys;

        Matching(Settings settings, Table first, Table second, Table layers) {
            this.settings = settings;
            this.first = first;
            this.second = second;
            this.layers = layers;
            costs = new int[EDGES];
            keys = new long[SETS];
        }

        int costOf(int one, int other) {
            long gap = first.at(one, LEAN) - second.at(other, LEAN);
            if (gap <= 0) {
                return NONE;
            }
            long above = 1000L * settings.base;
            if (above < settings.low * gap || above > settings.high * gap) {
                return NONE;
            }
            int unlike = first.at(one, WORD) == second.at(other, WORD) ? 0 : settings.unlike;
            return unlike + wayToLayer((int) (above / gap));
        }

        private int wayToLayer(int cutHeight) {
            if (layers.size() == 0) {
                return 0;
            }
            int nearest = MOST_HEIGHT;
            for (int i = 0; i < layers.size(); i++) {
                nearest = Math.min(nearest, Math.abs(cutHeight - layers.at(i, 0)));
            }
            return nearest;
        }

        long bestKey() {
            for (int set = 0; set < SETS; set++) {
                keys[set] = UNREACHED;
            }
            keys[0] = 0;
            for (int edge = 0; edge < first.size() && edge < EDGES; edge++) {
                fillCosts(edge);
                bringIn(4 * (EDGES - 1 - edge));
            }
            return leastWithTheSecondsAlone();
        }

        private void fillCosts(int edge) {
            for (int other = 0; other < EDGES; other++) {
                costs[other] = other < second.size() ? costOf(edge, other) : NONE;
            }
        }

        /** Sets from the greatest down, for each reads smaller ones as they were without this edge. */
        private void bringIn(int shift) {
            for (int set = SETS - 1; set >= 0; set--) {
                long best = keys[set];
                if (best != UNREACHED) {
                    best += (long) settings.alone << SUM_SHIFT;
                }
                for (int other = 0; other < EDGES; other++) {
                    if ((set & 1 << other) == 0 || costs[other] == NONE) {
                        continue;
                    }
                    long without = keys[set ^ 1 << other];
                    if (without != UNREACHED) {
                        best = Math.min(best, without + ((long) costs[other] << SUM_SHIFT) + ((other + 1L) << shift));
                    }
                }
                keys[set] = best;
            }
        }

        private long leastWithTheSecondsAlone() {
            long best = UNREACHED;
            for (int set = 0; set < SETS; set++) {
                if (keys[set] != UNREACHED) {
                    long left = second.size() - Integer.bitCount(set);
                    best = Math.min(best, keys[set] + (left * settings.alone << SUM_SHIFT));
                }
            }
            return best;
        }

        int sumOf(long key) {
            return (int) (key >> SUM_SHIFT);
        }

        int partnerOf(long key, int edge) {
            return (int) (key >> 4 * (EDGES - 1 - edge) & 15) - 1;
        }
    }

    /** Speeds of puffs by sights and by shadows. What is 0 for the speed itself, 1 and 2 for its span's ends. */
    private static final class Speeds {
        private static final int PUFF = 0;
        private static final int MINUTE = 1;
        private static final int FIRST = 2;
        private static final int SECOND = 3;
        private static final int PLACE = 2;
        private static final int ERROR = 3;

        private final Settings settings;
        private final Table sights;
        private final Table shadows;
        private final Fraction sightLow;
        private final Fraction sightHigh;
        private final Fraction shadowLow;
        private final Fraction shadowHigh;

        Speeds(Settings settings, Table sights, Table shadows) {
            this.settings = settings;
            this.sights = sights;
            this.shadows = shadows;
            sightLow = new Fraction();
            sightHigh = new Fraction();
            shadowLow = new Fraction();
            shadowHigh = new Fraction();
        }

        static boolean areOfOnePuff(Table table, int a, int b) {
            return table.has(a) && table.has(b)
                && table.at(a, PUFF) == table.at(b, PUFF)
                && table.at(a, MINUTE) != table.at(b, MINUTE);
        }

        private static boolean isLater(Table table, int a, int b) {
            return table.at(a, MINUTE) > table.at(b, MINUTE);
        }

        private static int minutesBetween(Table table, int a, int b) {
            return Math.abs(table.at(a, MINUTE) - table.at(b, MINUTE));
        }

        boolean putSightSpeed(int a, int b, int what, Fraction into) {
            if (what == 0 ? gapOf(a) <= 0 || gapOf(b) <= 0 : !haveSpan(a, b)) {
                return false;
            }
            int later = isLater(sights, a, b) ? a : b;
            int earlier = later == a ? b : a;
            int side = sideOf(what);
            long laterBelow = gapAt(later, side);
            long earlierBelow = gapAt(earlier, -side);
            long above = leanAt(later, side) * earlierBelow - leanAt(earlier, -side) * laterBelow;
            into.put(settings.base * above, laterBelow * earlierBelow * minutesBetween(sights, a, b));
            return true;
        }

        void putShadowSpeed(int a, int b, int what, Fraction into) {
            int later = isLater(shadows, a, b) ? a : b;
            int earlier = later == a ? b : a;
            int errors = shadows.at(a, ERROR) + shadows.at(b, ERROR);
            int way = shadows.at(later, PLACE) - shadows.at(earlier, PLACE) + sideOf(what) * errors;
            into.put(way, minutesBetween(shadows, a, b));
        }

        boolean haveSpan(int a, int b) {
            int least = 2 * settings.slip;
            return gapOf(a) > least && gapOf(b) > least;
        }

        boolean spansMeet(int a, int b, int c, int d) {
            putSightSpeed(a, b, 1, sightLow);
            putSightSpeed(a, b, 2, sightHigh);
            putShadowSpeed(c, d, 1, shadowLow);
            putShadowSpeed(c, d, 2, shadowHigh);
            return sightLow.isAtMost(shadowHigh) && shadowLow.isAtMost(sightHigh);
        }

        private static int sideOf(int what) {
            if (what == 0) {
                return 0;
            }
            return what == 1 ? -1 : 1;
        }

        private int gapOf(int sight) {
            return sights.at(sight, FIRST) - sights.at(sight, SECOND);
        }

        /** A place is BASE times a lean by a gap: this lean, for the place's lower end (-1), itself (0), upper end (1). */
        private long leanAt(int sight, int side) {
            return sights.at(sight, FIRST) + side * settings.slip;
        }

        /** The gap for the same: a higher cloud, so a smaller gap, takes the place further from 0. */
        private long gapAt(int sight, int side) {
            boolean outward = leanAt(sight, side) >= 0 ? side > 0 : side < 0;
            int slips = outward ? -Math.abs(side) : Math.abs(side);
            return gapOf(sight) + 2L * slips * settings.slip;
        }
    }

    /** How few layers there must have been. */
    private static final class Layering {
        // below and above all heights, brought down or not
        private static final int DEEP = -1000000;
        private static final int FAR_UP = 1000000;

        private final Table heights;
        private final int[] lows;
        private final int[] highs;
        private final int[] found;

        Layering(Table heights) {
            this.heights = heights;
            lows = new int[HEIGHTS];
            highs = new int[HEIGHTS];
            found = new int[HEIGHTS];
        }

        /** How many layers by a tilt, no more than most are looked for. */
        int fill(int tilt, int most) {
            bringDown(tilt);
            int many = 0;
            int last = DEEP;
            for (int i = 0; i < HEIGHTS && i < most; i++) {
                last = leastHighAbove(last);
                if (last == FAR_UP) {
                    break;
                }
                found[i] = last;
                many++;
            }
            return many;
        }

        private void bringDown(int tilt) {
            for (int i = 0; i < heights.size() && i < HEIGHTS; i++) {
                int down = tilt * heights.at(i, 2) / 1000;
                lows[i] = heights.at(i, 0) - down;
                highs[i] = heights.at(i, 1) - down;
            }
        }

        /** Each span that starts no higher than the last layer holds a layer already. */
        private int leastHighAbove(int last) {
            int least = FAR_UP;
            for (int i = 0; i < heights.size() && i < HEIGHTS; i++) {
                if (lows[i] > last && highs[i] < least) {
                    least = highs[i];
                }
            }
            return least;
        }

        int layerAt(int i) {
            return i >= 0 && i < HEIGHTS ? found[i] : NONE;
        }

        int bestTilt() {
            int best = 0;
            int fewest = fill(0, HEIGHTS);
            for (int size = 1; size <= MOST_TILT; size++) {
                // no more than the fewest are looked for: a tilt that needs as many is no better
                int up = fill(size, fewest);
                if (up < fewest) {
                    fewest = up;
                    best = size;
                }
                int down = fill(-size, fewest);
                if (down < fewest) {
                    fewest = down;
                    best = -size;
                }
            }
            return best;
        }
    }

    /**
     * Bent boards from pairs. With a worst, each pair says that one board is bent at most so much more than the other;
     * the shortest ways from watcher 0 by such sayings are the greatest that the boards may be bent.
     */
    private static final class Boards {
        private static final int FIRST = 0;
        private static final int SECOND = 1;
        private static final int DIFFERENCE = 2;
        private static final int UNJOINED = 1000000;
        // 2001 worsts are halved to one by 11 steps
        private static final int HALVINGS = 11;

        private final Table pairs;
        private final int[] bents;

        Boards(Table pairs) {
            this.pairs = pairs;
            bents = new int[WATCHERS];
        }

        /** The worst; it leaves the greatest row in bents. */
        int leastWorst() {
            settle(MOST_DIFFERENCE);
            if (pairs.size() == 0 || !areAllJoined()) {
                return NONE;
            }
            int low = 0;
            int high = MOST_DIFFERENCE;
            for (int step = 0; step < HALVINGS && low < high; step++) {
                int middle = (low + high) / 2;
                if (settle(middle)) {
                    high = middle;
                } else {
                    low = middle + 1;
                }
            }
            settle(high);
            return high;
        }

        private boolean areAllJoined() {
            for (int i = 0; i < pairs.size(); i++) {
                if (!isJoined(pairs.at(i, FIRST)) || !isJoined(pairs.at(i, SECOND))) {
                    return false;
                }
            }
            return true;
        }

        boolean isJoined(int watcher) {
            return isWithin(watcher, 0, WATCHERS - 1) && bents[watcher] != UNJOINED;
        }

        int bentOf(int watcher) {
            return isWithin(watcher, 0, WATCHERS - 1) ? bents[watcher] : 0;
        }

        /** Whether a row is there for the worst: then as many rounds as watchers bring all to rest. */
        private boolean settle(int worst) {
            bents[0] = 0;
            for (int watcher = 1; watcher < WATCHERS; watcher++) {
                bents[watcher] = UNJOINED;
            }
            for (int round = 0; round < WATCHERS; round++) {
                if (!lowerAll(worst)) {
                    return true;
                }
            }
            return false;
        }

        private boolean lowerAll(int worst) {
            boolean changed = false;
            for (int i = 0; i < pairs.size(); i++) {
                int first = pairs.at(i, FIRST);
                int second = pairs.at(i, SECOND);
                int difference = pairs.at(i, DIFFERENCE);
                changed |= lower(first, second, difference + worst);
                changed |= lower(second, first, worst - difference);
            }
            return changed;
        }

        private boolean lower(int watcher, int other, int more) {
            if (!isWithin(watcher, 0, WATCHERS - 1) || !isJoined(other)) {
                return false;
            }
            int most = bents[other] + more;
            if (most >= bents[watcher]) {
                return false;
            }
            bents[watcher] = most;
            return true;
        }
    }

    /** Guesses from the nearest rows. */
    private static final class Years {
        private final Table rows;
        private int sum;
        private int many;
        private int distance;

        Years(Table rows) {
            this.rows = rows;
        }

        void look(int form, int hour, int wind) {
            sum = 0;
            many = 0;
            distance = NONE;
            for (int i = 0; i < rows.size(); i++) {
                if (rows.at(i, 0) == form && rows.at(i, 3) != NONE) {
                    int hours = apart(hour, rows.at(i, 1), 24);
                    int winds = apart(wind, rows.at(i, 2), 8);
                    take(hours + winds, rows.at(i, 3));
                }
            }
        }

        private static int apart(int a, int b, int round) {
            int straight = Math.abs(a - b);
            return Math.min(straight, round - straight);
        }

        private void take(int newDistance, int newHeight) {
            if (many > 0 && newDistance > distance) {
                return;
            }
            if (many == 0 || newDistance < distance) {
                sum = 0;
                many = 0;
                distance = newDistance;
            }
            sum += newHeight;
            many++;
        }

        int mean() {
            return many > 0 ? sum / many : NONE;
        }
    }

    /**
     * Which sheet lies under which. A key is a quarrel and an order in one number: the quarrel above 24 bits, then 3
     * bits for each place from the lowest, so that the least key is the least quarrel with the first row.
     */
    private static final class Sheets {
        private static final int SETS = 1 << FORMS;
        private static final int QUARREL_SHIFT = 3 * FORMS;
        // above every key: a quarrel is 100 at most
        private static final long UNREACHED = 1L << 60;

        private final Table notes;
        private final int[] votes;
        private final long[] keys;

        Sheets(Table notes) {
            this.notes = notes;
            votes = new int[FORMS * FORMS];
            keys = new long[SETS];
        }

        long bestKey() {
            countVotes();
            keys[0] = 0;
            for (int set = 1; set < SETS; set++) {
                keys[set] = bestOf(set);
            }
            return keys[SETS - 1];
        }

        private void countVotes() {
            for (int place = 0; place < votes.length; place++) {
                votes[place] = 0;
            }
            for (int i = 0; i < notes.size(); i++) {
                int place = notes.at(i, 0) * FORMS + notes.at(i, 1);
                if (place >= 0 && place < votes.length) {
                    votes[place]++;
                }
            }
        }

        /** The best row of the forms in a set, one of which is its last; smaller sets are known. */
        private long bestOf(int set) {
            int shift = 3 * (FORMS - Integer.bitCount(set));
            long best = UNREACHED;
            for (int form = 0; form < FORMS; form++) {
                int before = set & ~(1 << form);
                if (before != set && before >= 0 && before < SETS) {
                    long quarrel = votesAgainst(form, before);
                    best = Math.min(best, keys[before] + (quarrel << QUARREL_SHIFT) + ((long) form << shift));
                }
            }
            return best;
        }

        /** Notes that the form is under one of those that stand below it. */
        private int votesAgainst(int form, int before) {
            int sum = 0;
            for (int other = 0; other < FORMS; other++) {
                int place = form * FORMS + other;
                if ((before & 1 << other) != 0 && place >= 0 && place < votes.length) {
                    sum += votes[place];
                }
            }
            return sum;
        }

        int quarrelOf(long key) {
            return (int) (key >> QUARREL_SHIFT);
        }

        int formAt(long key, int place) {
            return (int) (key >> 3 * (FORMS - 1 - place) & 7);
        }
    }
}
