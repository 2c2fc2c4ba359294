import java.util.List;

/**
 * "Refused, changing nothing, the first of: BAD; NO; FULL": the refusals that are not one number out of its bounds
 * (those are in BoundsTest) nor a full row (in FullTest), and which refusal comes first.
 */
public final class RefusedTest {
    private static final int BAD = CloudOffice.BAD;
    private static final int NO = CloudOffice.NO;
    private static final List<String> BUSY = BusyOffice.picture(BusyOffice.make());

    public static void main(String[] args) {
        lowAboveHigh();
        noSuchEdges();
        unlikePuffsAndLikeMinutes();
        agreeIsRefused();
        noComesBehindBad();
        alike();
        bentIsRefused();
        manyNumbersAreBad();
        noneChangesNothing();
        askingChangesNothing();
        refusedBetween();
        Due.end();
    }

    private static void refused(long refusal, String name, int... numbers) {
        BusyOffice.refuses(BusyOffice.make(), BUSY, refusal, name, numbers);
    }

    /** "BAD: LOW above HIGH, too"; "BAD: low above high, too": alike they are taken. */
    private static void lowAboveHigh() {
        refused(BAD, "rules", 501, 500, 0, 0);
        refused(BAD, "rules", 100000, 1, 0, 0);
        refused(BAD, "rules", 100000, 99999, 0, 0);
        refused(BAD, "span", 501, 500, 0);
        refused(BAD, "span", 1, 0, 0);
        refused(BAD, "span", 100000, 99999, 0);
        CloudOffice x = BusyOffice.make();
        Due.is("LOW and HIGH alike", x.rules(500, 500, 0, 0), 1);
        Due.is("LOW and HIGH both 1", x.rules(1, 1, 0, 0), 1);
        Due.is("LOW and HIGH both 100000", x.rules(100000, 100000, 0, 0), 1);
        Due.is("low and high alike", x.span(500, 500, 0), 5);
        Due.is("low and high both 0", x.span(0, 0, 0), 6);
        Due.is("low and high both 100000", x.span(100000, 100000, 0), 7);
    }

    /** "BAD: no such EDGES", of either. */
    private static void noSuchEdges() {
        refused(BAD, "cost", 2, 0);
        refused(BAD, "cost", 0, 3);
        refused(BAD, "cost", 2, 3);
        refused(BAD, "cost", -1, -1);
        refused(-10, "matched", 2);
        refused(-10, "matched", -2);
    }

    /** "BAD: unlike puffs, like minutes, too". */
    private static void unlikePuffsAndLikeMinutes() {
        for (int what = 0; what < 3; what++) {
            refused(BAD, "speed", 0, 3, what);
            refused(BAD, "speed", 3, 1, what);
            refused(BAD, "speed", 1, 1, what);
            refused(BAD, "shade", 0, 2, what);
            refused(BAD, "shade", 2, 1, what);
            refused(BAD, "shade", 1, 1, what);
        }
        CloudOffice x = BusyOffice.make();
        x.sight(4, 500, 7, -3);
        x.shadow(4, 500, 7, 3);
        Due.is("other sights at like minutes", x.speed(0, 5, 0), BAD);
        Due.is("other sights at like minutes, turned", x.speed(5, 0, 0), BAD);
        Due.is("other shadows at like minutes", x.shade(0, 4, 0), BAD);
        Due.is("other shadows at like minutes, turned", x.shade(4, 0, 0), BAD);
        x.sight(4, 501, 7, -3);
        x.shadow(4, 499, 7, 3);
        Due.is("a minute apart", x.speed(0, 6, 0), 1);
        Due.is("a minute apart", x.shade(5, 0, 0), 1);
    }

    /** "BAD: of unlike puffs, too": all that speed and shade refuse, and sights of one puff with shadows of another. */
    private static void agreeIsRefused() {
        refused(BAD, "agree", 0, 3, 0, 1);
        refused(BAD, "agree", 3, 0, 0, 1);
        refused(BAD, "agree", 0, 0, 0, 1);
        refused(BAD, "agree", 0, 1, 0, 2);
        refused(BAD, "agree", 0, 1, 2, 0);
        refused(BAD, "agree", 0, 1, 1, 1);
        CloudOffice x = BusyOffice.make();
        x.sight(5, 510, 1, -1000);
        x.shadow(5, 510, 0, 0);
        Due.is("puff 4 with puff 4", x.agree(0, 1, 0, 1), 1);
        Due.is("puff 5 with puff 5", x.agree(3, 5, 2, 4), 1);
        Due.is("puff 4 with puff 5", x.agree(0, 1, 2, 4), BAD);
        Due.is("puff 5 with puff 4", x.agree(3, 5, 0, 1), BAD);
    }

    /** "NO: a SPAN is none", of either SIGHT; behind all that is BAD. */
    private static void noComesBehindBad() {
        refused(NO, "agree", 0, 2, 0, 1);
        refused(NO, "agree", 2, 0, 0, 1);
        refused(NO, "agree", 2, 4, 3, 1);
        refused(BAD, "agree", 0, 2, 0, 0);
        refused(BAD, "agree", 0, 2, 0, 2);
        refused(BAD, "agree", 0, 2, 0, 4);
        refused(BAD, "agree", 0, 2, -1, 1);
        refused(BAD, "agree", 2, 2, 0, 1);
        CloudOffice x = BusyOffice.make();
        x.shadow(5, 510, 0, 0);
        Due.is("unlike puffs ahead of NO", x.agree(0, 2, 2, 4), BAD);
    }

    /** "BAD: alike, too". */
    private static void alike() {
        for (int i = 0; i < 6; i++) {
            refused(BAD, "pair", i, i, 0);
        }
        for (int i = 0; i < 8; i++) {
            refused(BAD, "under", i, i);
        }
    }

    /** "BAD: -100000; NO: -200000: worst() is NONE, or it is in no PAIR". */
    private static void bentIsRefused() {
        refused(-200000, "bent", 3);
        refused(-200000, "bent", 5);
        refused(-100000, "bent", 6);
        refused(-100000, "bent", -1);
        CloudOffice x = BusyOffice.make();
        x.pair(3, 4, 0);
        Due.is("worst() is NONE", x.worst(), CloudOffice.NONE);
        for (int watcher = 1; watcher < 6; watcher++) {
            Due.is("worst() is NONE: bent(" + watcher + ")", x.bent(watcher), -200000);
        }
        Due.is("worst() is NONE: bent(0)", x.bent(0), 0);
        Due.is("BAD stays BAD", x.bent(6), -100000);
        Due.is("BAD stays BAD", x.bent(-1), -100000);
    }

    /** All numbers of a call as bad as can be, for all calls that take any. */
    private static void manyNumbersAreBad() {
        String[] plainBad = {"base", "edge", "height", "layer", "rules", "cost", "sight", "shadow", "speed", "shade", "agree",
            "balloon", "light", "span", "pair", "row", "guess", "under", "order", "count"};
        for (int wild : new int[] {Integer.MIN_VALUE, Integer.MIN_VALUE + 1, -1000000007, 1000000007, Integer.MAX_VALUE}) {
            for (String name : plainBad) {
                refused(BAD, name, wild, wild, wild, wild);
            }
            refused(-9000000000000000000L, "part", wild);
            refused(-10, "matched", wild);
            refused(-2000000, "must", wild, wild);
            refused(-100, "tilted", wild);
            refused(-100000, "bent", wild);
        }
    }

    /** "0: none": THE FRACTION stays, and all else. */
    private static void noneChangesNothing() {
        refused(0, "height", 5, 5, 0);
        refused(0, "height", 5, 6, 1);
        refused(0, "height", 0, 12, 2);
        refused(0, "height", 12, 0, 3);
        refused(0, "speed", 0, 2, 1);
        refused(0, "speed", 2, 0, 2);
        refused(0, "light", 1, 0);
        refused(0, "light", 100000, -1);
        CloudOffice x = BusyOffice.make();
        x.sight(4, 540, 7, 7);
        Due.noFraction(x, "a HEIGHT is none", x.speed(0, 5, 0), 0, -6000, 7);
        Due.noFraction(x, "a HEIGHT is none", x.speed(5, 0, 0), 0, -6000, 7);
        Due.noFraction(x, "a HEIGHT is none, so a SPAN has no end", x.speed(5, 0, 1), 0, -6000, 7);
    }

    /** Calls that only ask, and do not put THE FRACTION, leave all as it is; asked twice they answer alike. */
    private static void askingChangesNothing() {
        CloudOffice x = BusyOffice.make();
        long before = x.digest();
        String[] names = {"floor", "worst", "digest", "part", "cost", "matched", "agree", "balloon", "must", "tilted", "bent",
            "guess", "order", "count"};
        int[][] numbers = {{}, {}, {}, {0}, {1, 1}, {-1}, {0, 1, 0, 1}, {5, 1, 5, 1}, {50, 0}, {0}, {2}, {2, 0, 0, 0}, {3}, {7}};
        for (int i = 0; i < names.length; i++) {
            long first = Calls.answer(x, names[i], numbers[i]);
            Due.is(Calls.text(names[i], numbers[i]) + " asked twice", Calls.answer(x, names[i], numbers[i]), first);
            Due.is(Calls.text(names[i], numbers[i]) + " changes nothing", x.digest(), before);
        }
    }

    /** Refused calls between the others: the office ends as one that never heard them. */
    private static void refusedBetween() {
        CloudOffice x = new CloudOffice();
        CloudOffice plain = new CloudOffice();
        for (int i = 0; i < 12; i++) {
            x.edge(0, 20001, 0);
            x.span(5, 4, 0);
            x.row(0, 24, 0, 5);
            x.pair(2, 2, 0);
            x.base(9, 0);
            x.rules(5, 4, 0, 0);
            Due.is("edge", x.edge(i % 2, 100 * i, i % 3), plain.edge(i % 2, 100 * i, i % 3));
            Due.is("span", x.span(i, 2 * i, i), plain.span(i, 2 * i, i));
            Due.is("row", x.row(1, i, 1, i), plain.row(1, i, 1, i));
            Due.is("pair", x.pair(0, 1 + i % 5, i), plain.pair(0, 1 + i % 5, i));
        }
        Due.isTrue("all is as without them", BusyOffice.picture(x).equals(BusyOffice.picture(plain)));
    }
}
