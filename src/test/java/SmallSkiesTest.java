import java.util.Arrays;
import java.util.Random;

/** Small skies and few boards, always the same ones, where every set of layers and every row of bents can be tried. */
public final class SmallSkiesTest {
    public static void main(String[] args) {
        Random random = new Random(31);
        for (int run = 0; run < 400; run++) {
            layers(random);
        }
        for (int run = 0; run < 150; run++) {
            boards(random);
        }
        Due.end();
    }

    /** Heights 0 .. 9: of the smallest sets of numbers that hold all spans, the greatest as a row from the lowest on. */
    private static void layers(Random random) {
        CloudOffice x = new CloudOffice();
        int many = random.nextInt(9);
        int[][] spans = new int[many][2];
        for (int i = 0; i < many; i++) {
            int a = random.nextInt(10);
            int b = Math.min(9, a + random.nextInt(4));
            spans[i][0] = a;
            spans[i][1] = b;
            x.span(a, b, 0);
        }
        int[] best = null;
        for (int set = 0; set < 1 << 10; set++) {
            int[] numbers = numbersOf(set);
            if (holdsAll(numbers, spans) && (best == null || isBetter(numbers, best))) {
                best = numbers;
            }
        }
        Due.is("layers of " + Arrays.deepToString(spans), x.must(0, -1), best.length);
        for (int i = 0; i < best.length; i++) {
            Due.is("layer " + i + " of " + Arrays.deepToString(spans), x.must(0, i), best[i]);
        }
        Due.is("no more of " + Arrays.deepToString(spans), x.must(0, best.length), -1);
    }

    private static int[] numbersOf(int set) {
        int[] numbers = new int[Integer.bitCount(set)];
        int many = 0;
        for (int i = 0; i < 10; i++) {
            if ((set & 1 << i) != 0) {
                numbers[many++] = i;
            }
        }
        return numbers;
    }

    private static boolean holdsAll(int[] numbers, int[][] spans) {
        for (int[] span : spans) {
            if (Arrays.stream(numbers).noneMatch(n -> span[0] <= n && n <= span[1])) {
                return false;
            }
        }
        return true;
    }

    private static boolean isBetter(int[] one, int[] other) {
        return one.length < other.length || one.length == other.length && Arrays.compare(one, other) > 0;
    }

    /** Watchers 0 .. 3 with differences -4 .. 4: all bents from -15 to 15 are tried. */
    private static void boards(Random random) {
        CloudOffice x = new CloudOffice();
        int many = 3 + random.nextInt(5);
        int[][] pairs = new int[many][];
        for (int i = 0; i < many; i++) {
            int first = i < 3 ? i + 1 : random.nextInt(4);
            int second = i < 3 ? i : (first + 1 + random.nextInt(3)) % 4;
            pairs[i] = new int[] {first, second, random.nextInt(9) - 4};
            x.pair(pairs[i][0], pairs[i][1], pairs[i][2]);
        }
        int least = Integer.MAX_VALUE;
        int[] greatest = new int[4];
        int[] bents = new int[4];
        for (bents[1] = -15; bents[1] <= 15; bents[1]++) {
            for (bents[2] = -15; bents[2] <= 15; bents[2]++) {
                for (bents[3] = -15; bents[3] <= 15; bents[3]++) {
                    int worst = worstOf(pairs, bents);
                    if (worst < least) {
                        least = worst;
                        System.arraycopy(bents, 0, greatest, 0, 4);
                    } else if (worst == least) {
                        for (int i = 1; i < 4; i++) {
                            greatest[i] = Math.max(greatest[i], bents[i]);
                        }
                    }
                }
            }
        }
        Due.is("worst of " + Arrays.deepToString(pairs), x.worst(), least);
        Due.is("one row is greatest in each", worstOf(pairs, greatest), least);
        for (int i = 0; i < 4; i++) {
            Due.is("bent " + i + " of " + Arrays.deepToString(pairs), x.bent(i), greatest[i]);
        }
    }

    private static int worstOf(int[][] pairs, int[] bents) {
        int worst = 0;
        for (int[] p : pairs) {
            worst = Math.max(worst, Math.abs(p[2] - (bents[p[0]] - bents[p[1]])));
        }
        return worst;
    }
}
