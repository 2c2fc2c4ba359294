import java.util.Random;

/** Runs of 512 calls, always the same ones, on CloudOffice and PlainOffice: each answer and the digest must be alike. */
public final class AgainstPlainTest {
    private static final int RUNS = 240;
    private static final int CALLS = 512;
    private static final int[] WILD = {-1, 0, 1, 2, 8, 10, 24, 40, 1000, 20001, 100001, -20001, Integer.MAX_VALUE,
        Integer.MIN_VALUE};

    public static void main(String[] args) {
        Random random = new Random(317);
        for (int run = 0; run < RUNS; run++) {
            // runs differ in how wide the numbers are, how many are wild, and which calls come often
            int width = run % 4;
            int wild = run % 3 == 0 ? 8 : 60;
            int only = run % 5;
            oneRun(random, run, width, wild, only);
        }
        Due.end();
    }

    private static void oneRun(Random random, int run, int width, int wild, int only) {
        CloudOffice office = new CloudOffice();
        PlainOffice plain = new PlainOffice();
        for (int i = 0; i < CALLS / 2; i++) {
            int method = pick(random, only);
            int[] a = new int[4];
            for (int k = 0; k < 4; k++) {
                a[k] = random.nextInt(wild) == 0 ? WILD[random.nextInt(WILD.length)]
                    : number(random, PlainOffice.NAMES[method], k, width);
            }
            if (random.nextInt(3) > 0) {
                orderEnds(PlainOffice.NAMES[method], a);
            }
            String call = "run " + run + ": " + PlainOffice.NAMES[method] + " " + a[0] + " " + a[1] + " " + a[2] + " " + a[3];
            Due.is(call, Calls.answer(office, PlainOffice.NAMES[method], a), plain.call(method, a[0], a[1], a[2], a[3]));
            Due.is(call + ", digest", office.digest(), plain.call(29, 0, 0, 0, 0));
        }
    }

    /** All calls, or mostly those of one part. */
    private static int pick(Random random, int only) {
        int[] from = {0, 0, 10, 17, 24};
        int[] to = {30, 10, 17, 24, 30};
        int part = random.nextInt(8) == 0 ? 0 : only;
        int method = from[part] + random.nextInt(to[part] - from[part]);
        boolean empties = method == 2 || method == 18;
        return empties && random.nextInt(4) != 0 ? method - 1 : method;
    }

    private static void orderEnds(String name, int[] a) {
        if ((name.equals("rules") || name.equals("span")) && a[0] > a[1]) {
            int high = a[0];
            a[0] = a[1];
            a[1] = high;
        }
    }

    private static int between(Random random, int least, int most) {
        return least + random.nextInt(most - least + 1);
    }

    private static int lean(Random random, int width) {
        int most = new int[] {20000, 2000, 300, 12}[width];
        return between(random, -most, most);
    }

    private static int number(Random random, String name, int k, int width) {
        int small = new int[] {100000, 3000, 60, 9}[width];
        switch (name) {
            case "base": return k == 0 ? between(random, 10, 10 + small) : random.nextInt(Math.min(1001, small));
            case "edge": return k == 0 ? random.nextInt(2) : k == 1 ? lean(random, width) * (random.nextInt(9) + 1) / 9
                : random.nextInt(k == 2 ? 3 : 10);
            case "height": return k < 2 ? lean(random, width) : random.nextInt(4);
            case "part": return random.nextInt(2);
            case "layer": return between(random, 1, small);
            case "rules": return k < 2 ? between(random, 1, small) : random.nextInt(Math.min(1001, small));
            case "cost": return random.nextInt(4);
            case "matched": return between(random, -1, 7);
            case "sight": return k == 0 ? random.nextInt(2) : k == 1 ? random.nextInt(Math.min(1440, small)) : lean(random, width);
            case "shadow": return k == 0 ? random.nextInt(2) : k == 1 ? random.nextInt(Math.min(1440, small))
                : k == 2 ? between(random, -10 * small, 10 * small) : random.nextInt(Math.min(10001, small));
            case "speed": case "shade": return k < 2 ? random.nextInt(12) : random.nextInt(3);
            case "agree": return random.nextInt(12);
            case "balloon": return k == 3 ? random.nextInt(2) : random.nextInt(k == 1 ? 100 : 1001);
            case "light": return k == 0 ? between(random, 1, small) : lean(random, width);
            case "span": return k < 2 ? random.nextInt(Math.min(100001, small)) : between(random, -10000, 10000);
            case "must": return k == 0 ? between(random, -50, 50) : between(random, -1, 9);
            case "tilted": return random.nextInt(2);
            case "pair": return k < 2 ? random.nextInt(6) : between(random, -Math.min(2000, small), Math.min(2000, small));
            case "bent": return random.nextInt(6);
            case "row": return k == 1 ? random.nextInt(24) : k == 3 ? between(random, -1, Math.min(100000, small))
                : random.nextInt(k == 0 ? 3 : 8);
            case "guess": return k == 1 ? random.nextInt(24) : random.nextInt(k == 2 ? 8 : 3);
            case "under": return random.nextInt(8);
            default: return random.nextInt(9);
        }
    }
}
