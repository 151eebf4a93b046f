import java.util.ArrayList;
import java.util.List;
import java.util.Random;
import java.util.TreeMap;

/**
 * Programs by chance. Held against each other: what is found behind back() and what two objects
 * with the same history tell (promises 11, 12); and what is kept, how often, by which way, against
 * a plain search over what node() tells (promises 12 to 14, 17, 20).
 */
public final class ChanceTest {
    private static final Sheet SHEET = new Sheet("chance");
    private static final int MOST_NODES_LOOKED_AT = 70;

    public static void main(String[] args) {
        for (int seed = 0; seed < 400; seed++) {
            String text = new Programs(seed).text();
            backIsAsBefore(text, new Random(seed));
            keptIsAsFound(text, new Random(seed));
            nothingIsThrown(text, new Random(seed));
        }
        SHEET.end();
    }

    private static void backIsAsBefore(String text, Random chance) {
        int a = 1 + chance.nextInt(60);
        int b = 1 + chance.nextInt(60);
        NeedSteps plain = Sheet.program(text);
        plain.step(a);
        NeedSteps gone = Sheet.program(text);
        gone.step(a);
        int done = gone.step(b);
        gone.sweep();
        gone.back(done);
        compare("back over a sweep: " + text, gone, plain, done > 0);

        NeedSteps swept = Sheet.program(text);
        swept.step(a);
        swept.sweep();
        NeedSteps again = Sheet.program(text);
        again.step(a);
        again.sweep();
        int more = again.step(b);
        again.sweep();
        again.back(more);
        compare("back to a sweep: " + text, again, swept, true);
        SHEET.due("the same STEPS again: " + text, again.step(b), more);
    }

    private static void compare(String what, NeedSteps got, NeedSteps want, boolean due) {
        if (due && want.count(0) <= MOST_NODES_LOOKED_AT) {
            SHEET.holds(what, all(got).equals(all(want)));
        }
    }

    /** All that can be told, but for state() and error(), which tell of the latest STEP. */
    private static List<Integer> all(NeedSteps x) {
        List<Integer> all = new ArrayList<>();
        for (int what = 0; what <= 6; what++) {
            all.add(x.count(what));
        }
        for (int node = 0; node < MOST_NODES_LOOKED_AT; node++) {
            for (int what = 0; what <= 4; what++) {
                all.add(x.node(node, what));
            }
        }
        for (int i = 0; i < 8; i++) {
            all.add(x.top(i));
            all.add(x.why(i));
            all.add(x.profile(i % 4, i / 4));
        }
        all.add(x.next());
        return all;
    }

    /** Only without a DUMP: the nodes of its STACKS are not told. */
    private static void keptIsAsFound(String text, Random chance) {
        NeedSteps x = Sheet.program(text);
        x.step(1 + chance.nextInt(40));
        if (x.count(3) > 0 || x.count(0) > 40) {
            return;
        }
        TreeMap<Integer, List<Integer>> ways = ways(x);
        int used = x.count(0);
        for (int node = 0; node < used; node++) {
            List<Integer> way = ways.get(node);
            SHEET.due("node(.., 5): " + text, x.node(node, 5), way == null ? 0 : 1);
            SHEET.due("way(.., -1): " + text, x.way(node, -1), way == null ? NeedSteps.BAD : way.size());
            for (int k = 0; way != null && k < way.size() && k < 4; k++) {
                SHEET.due("way(.., k): " + text, x.way(node, k), way.get(k));
            }
        }
        SHEET.due("count(1): " + text, x.count(1), ways.size());
        SHEET.due("share(): " + text, x.share(), 1000 * ways.size() / used);
        SHEET.due("sweep(): " + text, x.sweep(), used - ways.size());
        SHEET.due("share() behind sweep(): " + text, x.share(), 1000);
    }

    /** Every way of the shortest length is tried, and the least of them is kept. */
    private static TreeMap<Integer, List<Integer>> ways(NeedSteps x) {
        TreeMap<Integer, List<Integer>> ways = new TreeMap<>();
        for (int d = 0; d < 4; d++) {
            ways.put(d, List.of(d));
        }
        for (int place = 0; x.top(place) != NeedSteps.BAD; place++) {
            ways.put(x.top(place), List.of(x.top(place)));
        }
        TreeMap<Integer, List<Integer>> latest = new TreeMap<>(ways);
        while (!latest.isEmpty()) {
            TreeMap<Integer, List<Integer>> longer = new TreeMap<>();
            for (List<Integer> way : latest.values()) {
                for (int node : within(x, way.get(way.size() - 1))) {
                    List<Integer> on = new ArrayList<>(way);
                    on.add(node);
                    if (!ways.containsKey(node)
                        && (!longer.containsKey(node) || isLess(on, longer.get(node)))) {
                        longer.put(node, on);
                    }
                }
            }
            ways.putAll(longer);
            latest = longer;
        }
        return ways;
    }

    private static List<Integer> within(NeedSteps x, int node) {
        switch (x.node(node, 0)) {
            case 1:
            case 4:
                return List.of(x.node(node, 1), x.node(node, 2));
            case 6:
                return List.of(x.node(node, 1));
            default:
                return List.of();
        }
    }

    private static boolean isLess(List<Integer> a, List<Integer> b) {
        for (int i = 0; i < a.size(); i++) {
            if (!a.get(i).equals(b.get(i))) {
                return a.get(i) < b.get(i);
            }
        }
        return false;
    }

    /** Any arguments in any state; half of the texts are broken first. */
    private static void nothingIsThrown(String text, Random chance) {
        NeedSteps x = new NeedSteps();
        StringBuilder broken = new StringBuilder(text);
        if (chance.nextBoolean()) {
            broken.setCharAt(chance.nextInt(text.length()), (char) chance.nextInt(256));
        }
        Sheet.feed(x, broken.toString());
        String calls = "";
        try {
            for (int i = 0; i < 400; i++) {
                int which = chance.nextInt(40);
                int n = chance.nextInt(5) == 0 ? chance.nextInt() : chance.nextInt(60) - 2;
                int k = chance.nextInt(9) == 0 ? chance.nextInt() : chance.nextInt(9) - 2;
                calls = which + " " + n + " " + k;
                call(x, which, n, k);
            }
        } catch (RuntimeException e) {
            SHEET.holds("call " + calls + " threw " + e + ": " + broken, false);
        }
        SHEET.holds("nothing thrown", true);
    }

    private static void call(NeedSteps x, int which, int n, int k) {
        switch (which) {
            case 0: x.feed(n, k, n, k, n); break;
            case 1: x.cut(n); break;
            case 2: x.fault(); break;
            case 3: x.state(); break;
            case 4: x.error(); break;
            case 5: x.stopAt(k); break;
            case 6: x.back(n); break;
            case 7: x.sweep(); break;
            case 8: x.count(k); break;
            case 9: x.top(k); break;
            case 10: x.why(k); break;
            case 11: x.profile(k, n); break;
            case 12: x.rest(); break;
            case 13: x.next(); break;
            case 14: case 15: case 16: x.node(n, k); break;
            case 17: case 18: case 19: x.way(n, k); break;
            case 20: sharing(x); break;
            case 21: if (x.state() == NeedSteps.NO) { x.read(); } break;
            default: x.step(n); break;
        }
    }

    private static void sharing(NeedSteps x) {
        boolean none = x.state() == NeedSteps.NO;
        boolean thrown = false;
        try {
            x.share();
        } catch (ArithmeticException e) {
            thrown = true;
        }
        SHEET.holds("share() throws just without a program", none == thrown);
    }
}
