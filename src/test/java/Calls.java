import java.util.Arrays;

/** Calls by their names, so that tests can keep them in tables. */
final class Calls {
    private Calls() {
    }

    static long answer(CloudOffice x, String name, int... numbers) {
        int[] a = Arrays.copyOf(numbers, 4);
        switch (name) {
            case "base": return x.base(a[0], a[1]);
            case "edge": return x.edge(a[0], a[1], a[2]);
            case "clear": return x.clear();
            case "height": return x.height(a[0], a[1], a[2]);
            case "part": return x.part(a[0]);
            case "floor": return x.floor();
            case "layer": return x.layer(a[0]);
            case "rules": return x.rules(a[0], a[1], a[2], a[3]);
            case "cost": return x.cost(a[0], a[1]);
            case "matched": return x.matched(a[0]);
            case "sight": return x.sight(a[0], a[1], a[2], a[3]);
            case "shadow": return x.shadow(a[0], a[1], a[2], a[3]);
            case "speed": return x.speed(a[0], a[1], a[2]);
            case "shade": return x.shade(a[0], a[1], a[2]);
            case "agree": return x.agree(a[0], a[1], a[2], a[3]);
            case "balloon": return x.balloon(a[0], a[1], a[2], a[3]);
            case "light": return x.light(a[0], a[1]);
            case "span": return x.span(a[0], a[1], a[2]);
            case "sweep": return x.sweep();
            case "must": return x.must(a[0], a[1]);
            case "tilted": return x.tilted(a[0]);
            case "pair": return x.pair(a[0], a[1], a[2]);
            case "worst": return x.worst();
            case "bent": return x.bent(a[0]);
            case "row": return x.row(a[0], a[1], a[2], a[3]);
            case "guess": return x.guess(a[0], a[1], a[2], a[3]);
            case "under": return x.under(a[0], a[1]);
            case "order": return x.order(a[0]);
            case "count": return x.count(a[0]);
            case "digest": return x.digest();
            default: throw new IllegalArgumentException(name);
        }
    }

    static String text(String name, int... numbers) {
        return name + Arrays.toString(numbers).replace('[', '(').replace(']', ')');
    }
}
