/** Holds answers against those that are due; the tests of the project share it. */
final class Due {
    private static int wrong = 0;
    private static int held = 0;

    private Due() {
    }

    static void is(String call, long got, long want) {
        held++;
        if (got != want) {
            wrong++;
            System.out.println(call + " answered " + got + ", due is " + want);
        }
    }

    static void isTrue(String saying, boolean holds) {
        held++;
        if (!holds) {
            wrong++;
            System.out.println("does not hold: " + saying);
        }
    }

    /** An answer that put THE FRACTION, and THE FRACTION. */
    static void fraction(CloudOffice office, String call, int got, long above, long below) {
        is(call, got, 1);
        is(call + ", above", office.part(0), above);
        is(call + ", below", office.part(1), below);
    }

    /** An answer other than 1 leaves THE FRACTION as it was. */
    static void noFraction(CloudOffice office, String call, int got, int want, long above, long below) {
        is(call, got, want);
        is(call + ", above", office.part(0), above);
        is(call + ", below", office.part(1), below);
    }

    static void end() {
        System.out.println(held + " answers held, " + wrong + " wrong");
        if (wrong != 0) {
            System.exit(1);
        }
    }
}
