import java.util.ArrayList;
import java.util.List;

/** An office that was told something of each kind, and a picture of what an office answers to everything. */
final class BusyOffice {
    private record Told(String name, int... numbers) {
    }

    private static final Told[] TOLD = {
        new Told("base", 2000, 6), new Told("rules", 200, 3000, 60, 70),
        new Told("edge", 0, 500, 1), new Told("edge", 0, 900, 2),
        new Told("edge", 1, -500, 1), new Told("edge", 1, -300, 2), new Told("edge", 1, -900, 3),
        new Told("layer", 1400), new Told("layer", 1800),
        new Told("sight", 4, 500, 300, -300), new Told("sight", 4, 510, 400, -300), new Told("sight", 4, 520, 3, -3),
        new Told("sight", 5, 500, 1, -1000), new Told("sight", 4, 530, 350, -300),
        new Told("shadow", 4, 500, 1000, 10), new Told("shadow", 4, 510, 1100, 10), new Told("shadow", 5, 500, 0, 0),
        new Told("shadow", 4, 540, 2500, 0),
        new Told("span", 100, 200, 0), new Told("span", 150, 300, 1000), new Told("span", 250, 400, 2000),
        new Told("span", 130, 140, -5000),
        new Told("pair", 0, 1, 10), new Told("pair", 1, 2, 5), new Told("pair", 0, 2, 18),
        new Told("row", 2, 23, 7, 1000), new Told("row", 2, 2, 1, -1), new Told("row", 2, 1, 0, 1201),
        new Told("row", 2, 21, 7, 3000),
        new Told("under", 3, 1), new Told("under", 1, 5), new Told("under", 5, 3),
        new Told("height", -3, -10, 1)};

    private BusyOffice() {
    }

    static CloudOffice make() {
        CloudOffice x = new CloudOffice();
        for (Told told : TOLD) {
            Calls.answer(x, told.name, told.numbers);
        }
        return x;
    }

    static PlainOffice makePlain() {
        PlainOffice x = new PlainOffice();
        for (Told told : TOLD) {
            x.call(told.name, told.numbers);
        }
        return x;
    }

    /** A line for each answer. THE FRACTION is asked for first, for the last questions change it. */
    static List<String> picture(CloudOffice x) {
        List<String> lines = new ArrayList<>();
        ask(lines, x, "part", 0);
        ask(lines, x, "part", 1);
        ask(lines, x, "floor");
        ask(lines, x, "digest");
        for (int what = 0; what <= 8; what++) {
            ask(lines, x, "count", what);
        }
        askEdges(lines, x);
        askLayers(lines, x);
        askYears(lines, x);
        askFractions(lines, x);
        return lines;
    }

    private static void askEdges(List<String> lines, CloudOffice x) {
        for (int first = 0; first < 3; first++) {
            for (int second = 0; second < 4; second++) {
                ask(lines, x, "cost", first, second);
            }
        }
        for (int what = -1; what < 3; what++) {
            ask(lines, x, "matched", what);
        }
    }

    private static void askLayers(List<String> lines, CloudOffice x) {
        for (int tilt : new int[] {-50, 0, 1, 50}) {
            for (int what = -1; what < 4; what++) {
                ask(lines, x, "must", tilt, what);
            }
        }
        ask(lines, x, "tilted", 0);
        ask(lines, x, "tilted", 1);
        ask(lines, x, "worst");
        for (int watcher = 0; watcher < 6; watcher++) {
            ask(lines, x, "bent", watcher);
        }
    }

    private static void askYears(List<String> lines, CloudOffice x) {
        for (int what = 0; what < 3; what++) {
            ask(lines, x, "guess", 2, 0, 0, what);
            ask(lines, x, "guess", 3, 0, 0, what);
        }
        for (int what = 0; what <= 8; what++) {
            ask(lines, x, "order", what);
        }
    }

    private static void askFractions(List<String> lines, CloudOffice x) {
        ask(lines, x, "agree", 0, 1, 0, 1);
        ask(lines, x, "agree", 0, 2, 0, 1);
        ask(lines, x, "agree", 0, 4, 0, 3);
        for (int what = 0; what < 3; what++) {
            ask(lines, x, "height", 100, -100, what);
            ask(lines, x, "digest");
            ask(lines, x, "speed", 0, 1, what);
            ask(lines, x, "digest");
            ask(lines, x, "shade", 0, 1, what);
            ask(lines, x, "digest");
        }
    }

    private static void ask(List<String> lines, CloudOffice x, String name, int... numbers) {
        lines.add(Calls.text(name, numbers) + " answers " + Calls.answer(x, name, numbers));
    }

    /** The call is refused, and the office answers to everything as one does that was not called so. */
    static void refuses(CloudOffice x, List<String> before, long refusal, String name, int... numbers) {
        String call = Calls.text(name, numbers);
        Due.is(call, Calls.answer(x, name, numbers), refusal);
        List<String> after = picture(x);
        for (int i = 0; i < before.size(); i++) {
            Due.isTrue("after the refused " + call + ": " + before.get(i), before.get(i).equals(after.get(i)));
        }
    }
}
