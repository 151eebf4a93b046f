import java.util.ArrayDeque;
import java.util.ArrayList;
import java.util.Arrays;
import java.util.Deque;
import java.util.HashMap;
import java.util.List;
import java.util.Map;

/**
 * The document's words once more, as plainly as they can be written and in another way than the
 * class: a ModelReader's tree is MADE by recursion, each STEP keeps a copy of all there was ahead
 * of it, a way is found by trying all ways. ModelTest holds the class against it.
 */
final class Model {
    private static final int BAD = -1, FULL = -2, NO = -3;
    private static final int NUMBER = 0, APPLY = 1, FUNCTION = 2, PRIMITIVE = 3, PAIR = 4, NIL = 5, POINTER = 6;
    private static final List<String> ARITHMETIC = List.of("add", "sub", "mul", "quo", "less", "same");
    private static final List<String> OF_PAIRS = List.of("head", "tail", "empty");

    /** A kind, up to two numbers, and the DEFINITION that made it. */
    private record Node(int kind, int first, int second, int maker) {
        Node become(int newKind, int newFirst, int newSecond) {
            return new Node(newKind, newFirst, newSecond, maker);
        }

        List<Integer> has() {
            return kind == APPLY || kind == PAIR ? List.of(first, second) : kind == POINTER ? List.of(first) : List.of();
        }
    }

    /** All that a STEP can change. Nodes that are free are null. */
    private static final class Now {
        Node[] nodes = new Node[400];
        List<List<Integer>> stacks = new ArrayList<>();
        int steps = 0;
        int made = 0;
        int most = 0;
        int[][] profile = new int[20][2];

        Now copy() {
            Now other = new Now();
            other.nodes = nodes.clone();
            for (List<Integer> stack : stacks) {
                other.stacks.add(new ArrayList<>(stack));
            }
            other.steps = steps;
            other.made = made;
            other.most = most;
            for (int d = 0; d < 20; d++) {
                other.profile[d] = profile[d].clone();
            }
            return other;
        }

        List<Integer> stack() {
            return stacks.get(stacks.size() - 1);
        }

        int fromTop(int place) {
            return stack().get(stack().size() - 1 - place);
        }

        int used() {
            int used = 0;
            for (Node node : nodes) {
                used += node == null ? 0 : 1;
            }
            return used;
        }

        int places() {
            return stacks.stream().mapToInt(List::size).sum();
        }
    }

    /** There would be more nodes than there can be: the STEP is not done. */
    private static final class TooMany extends RuntimeException {
        private static final long serialVersionUID = 1;
    }

    private String tape = "";
    private List<ModelReader.Definition> program = null;
    private int fault = 0;
    private int state = 0;
    private int error = 0;
    private int stop = -1;
    private Now now = new Now();
    private final Deque<Now> before = new ArrayDeque<>();

    int feed(int... numbers) {
        if (tape.length() + 20 > 800) {
            return FULL;
        }
        for (int number : numbers) {
            for (int i = 3; i >= 0; i--) {
                tape += (char) (number >>> 8 * i & 255);
            }
        }
        return tape.length();
    }

    int cut(int n) {
        if (n < 0 || n > tape.length()) {
            return BAD;
        }
        int gone = tape.length() - n;
        tape = tape.substring(0, n);
        return gone;
    }

    int read() {
        program = null;
        fault = 0;
        try {
            program = new ModelReader(tape).program();
        } catch (ModelReader.Fault e) {
            fault = e.code;
            return -10 - e.place;
        } finally {
            tape = "";
        }
        before.clear();
        now = new Now();
        state = 0;
        error = 0;
        stop = -1;
        for (int d = 0; d < program.size(); d++) {
            add(FUNCTION, d, NO, NO);
            if (program.get(d).name().equals("main")) {
                now.stacks.add(new ArrayList<>(List.of(d)));
            }
        }
        return program.size();
    }

    int fault() {
        return fault;
    }

    int step(int n) {
        if (program == null) {
            return NO;
        }
        if (n < 1 || n > 2000) {
            return BAD;
        }
        for (int done = 0; done < n; done++) {
            Node top = now.nodes[now.fromTop(0)];
            if (done > 0 && top.kind == FUNCTION && top.first == stop && plan() == 2) {
                return done;
            }
            int next = plan();
            error = next > 7 ? next - 7 : 0;
            state = next == 6 ? 1 : next > 6 ? 2 : 0;
            if (state == 0 && !perform(next)) {
                state = 3;
            }
            if (state != 0) {
                return done;
            }
        }
        return n;
    }

    int state() {
        return program == null ? NO : state;
    }

    int error() {
        return program == null ? NO : error;
    }

    /** What next() answers; above 7: 7 and the ERROR. */
    private int plan() {
        Node top = now.nodes[now.fromTop(0)];
        int below = now.stack().size() - 1;
        switch (top.kind) {
            case POINTER:
                return 0;
            case APPLY:
                return 1;
            case FUNCTION:
                return below >= program.get(top.first).parameters().size() ? 2 : ofValue();
            case PRIMITIVE:
                return below >= needs(top) ? ofPrimitive(ModelReader.PRIMITIVES.get(top.first)) : ofValue();
            default:
                return below > 0 ? 7 + 1 : ofValue();
        }
    }

    int next() {
        return program == null ? NO : Math.min(plan(), 7);
    }

    private int ofValue() {
        return now.stacks.size() > 1 ? 5 : 6;
    }

    private static int needs(Node primitive) {
        return ModelReader.NEEDS.get(primitive.first);
    }

    private int secondBelow(int k) {
        return now.nodes[now.fromTop(k)].second;
    }

    /** -1: a ring. */
    private int followed(int node) {
        List<Integer> seen = new ArrayList<>();
        int at = node;
        while (now.nodes[at].kind == POINTER) {
            if (seen.contains(at)) {
                return -1;
            }
            seen.add(at);
            at = now.nodes[at].first;
        }
        return at;
    }

    private boolean isValue(int node) {
        int things = 0;
        int at = node;
        while (at >= 0 && now.nodes[at].kind == APPLY && things < 100) {
            things++;
            at = followed(now.nodes[at].first);
        }
        if (at < 0) {
            return false;
        }
        Node first = now.nodes[at];
        switch (first.kind) {
            case NUMBER: case PAIR: case NIL: return things == 0;
            case FUNCTION: return things < program.get(first.first).parameters().size();
            case PRIMITIVE: return things < needs(first);
            default: return false;
        }
    }

    /** The thing that is NEEDED, once plan() has answered 3. */
    private int needed = -1;

    private int ofPrimitive(String word) {
        int wanted = ARITHMETIC.contains(word) ? 2 : word.equals("cons") ? 0 : 1;
        for (int k = 1; k <= wanted; k++) {
            int thing = followed(secondBelow(k));
            if (thing < 0) {
                return 7 + 5;
            }
            if (!isValue(thing)) {
                needed = thing;
                return now.stacks.stream().anyMatch(s -> s.get(0) == thing) ? 7 + 5 : 3;
            }
            int kind = now.nodes[thing].kind;
            boolean fits = word.equals("seq") || (OF_PAIRS.contains(word) ? kind == PAIR || kind == NIL : kind == NUMBER);
            if (!fits) {
                return 7 + 2;
            }
        }
        if (word.equals("quo") && thing(2).first == 0) {
            return 7 + 3;
        }
        boolean apart = word.equals("head") || word.equals("tail");
        return apart && thing(1).kind == NIL ? 7 + 4 : 4;
    }

    private Node thing(int k) {
        return now.nodes[followed(secondBelow(k))];
    }

    /** Whether it is done: a copy is worked on, and is thrown away when it would be FULL. */
    private boolean perform(int next) {
        Now then = now;
        now = then.copy();
        try {
            performOn(next);
        } catch (TooMany e) {
            now = then;
            return false;
        }
        if (then.steps >= 5000 || now.places() > 600) {
            now = then;
            return false;
        }
        now.steps++;
        before.push(then);
        return true;
    }

    private void performOn(int next) {
        int node = now.fromTop(0);
        Node top = now.nodes[node];
        switch (next) {
            case 0:
                now.stack().set(now.stack().size() - 1, top.first);
                break;
            case 1:
                now.stack().add(top.first);
                break;
            case 2:
                makeFunction(top.first);
                break;
            case 3:
                now.stacks.add(new ArrayList<>(List.of(needed)));
                break;
            case 4:
                int lowest = now.fromTop(needs(top));
                now.nodes[lowest] = worked(ModelReader.PRIMITIVES.get(top.first), now.nodes[lowest]);
                replaceTop(needs(top) + 1, lowest);
                break;
            default:
                now.stacks.remove(now.stacks.size() - 1);
                break;
        }
    }

    private void replaceTop(int howMany, int node) {
        for (int i = 0; i < howMany; i++) {
            now.stack().remove(now.stack().size() - 1);
        }
        now.stack().add(node);
    }

    private Node worked(String word, Node lowest) {
        switch (word) {
            case "add": return lowest.become(NUMBER, thing(1).first + thing(2).first, NO);
            case "sub": return lowest.become(NUMBER, thing(1).first - thing(2).first, NO);
            case "mul": return lowest.become(NUMBER, thing(1).first * thing(2).first, NO);
            case "quo": return lowest.become(NUMBER, (int) ((long) thing(1).first / thing(2).first), NO);
            case "less": return lowest.become(NUMBER, thing(1).first < thing(2).first ? 1 : 0, NO);
            case "same": return lowest.become(NUMBER, thing(1).first == thing(2).first ? 1 : 0, NO);
            case "empty": return lowest.become(NUMBER, thing(1).kind == NIL ? 1 : 0, NO);
            case "cons": return lowest.become(PAIR, secondBelow(1), secondBelow(2));
            case "if": return lowest.become(POINTER, secondBelow(thing(1).first != 0 ? 2 : 3), NO);
            case "head": return lowest.become(POINTER, thing(1).first, NO);
            case "tail": return lowest.become(POINTER, thing(1).second, NO);
            default: return lowest.become(POINTER, secondBelow(2), NO);
        }
    }

    private void makeFunction(int d) {
        ModelReader.Definition definition = program.get(d);
        Map<String, Integer> names = new HashMap<>();
        for (int i = 0; i < program.size(); i++) {
            names.put(program.get(i).name(), i);
        }
        int count = definition.parameters().size();
        for (int k = 1; k <= count; k++) {
            names.put(definition.parameters().get(k - 1), secondBelow(k));
        }
        int lowest = now.fromTop(count);
        int madeBefore = now.made;
        int made = make(definition.expr(), names, d);
        now.nodes[lowest] = now.nodes[lowest].become(POINTER, made, NO);
        replaceTop(count + 1, made);
        now.profile[d][0]++;
        now.profile[d][1] += now.made - madeBefore;
    }

    private int make(ModelReader.Expr expr, Map<String, Integer> names, int d) {
        if (expr instanceof ModelReader.Let let) {
            return makeLet(let, names, d);
        }
        if (expr instanceof ModelReader.Atoms atoms) {
            int[] nodes = new int[atoms.atoms().size()];
            for (int i = 0; i < nodes.length; i++) {
                nodes[i] = make(atoms.atoms().get(i), names, d);
            }
            int made = nodes[0];
            for (int i = 1; i < nodes.length; i++) {
                made = add(APPLY, made, nodes[i], d);
            }
            return made;
        }
        ModelReader.Token token = ((ModelReader.Atom) expr).token();
        if (token.kind() == ModelReader.Kind.NUMBER) {
            return add(NUMBER, Integer.parseInt(token.text()), NO, d);
        }
        if (token.kind() == ModelReader.Kind.NAME) {
            return names.get(token.text());
        }
        return token.text().equals("nil") ? add(NIL, 0, NO, d)
            : add(PRIMITIVE, ModelReader.PRIMITIVES.indexOf(token.text()), NO, d);
    }

    private int makeLet(ModelReader.Let let, Map<String, Integer> around, int d) {
        Map<String, Integer> names = new HashMap<>(around);
        List<Integer> pointers = new ArrayList<>();
        for (ModelReader.Binding binding : let.bindings()) {
            int pointer = add(POINTER, 0, NO, d);
            now.nodes[pointer] = now.nodes[pointer].become(POINTER, pointer, NO);
            pointers.add(pointer);
            names.put(binding.name(), pointer);
        }
        for (int i = 0; i < pointers.size(); i++) {
            int made = make(let.bindings().get(i).expr(), names, d);
            now.nodes[pointers.get(i)] = now.nodes[pointers.get(i)].become(POINTER, made, NO);
        }
        return make(let.expr(), names, d);
    }

    private int add(int kind, int first, int second, int maker) {
        int node = Arrays.asList(now.nodes).indexOf(null);
        if (node < 0) {
            throw new TooMany();
        }
        now.nodes[node] = new Node(kind, first, second, maker);
        now.made++;
        now.most = Math.max(now.most, now.used());
        return node;
    }

    int stopAt(int definition) {
        if (program == null) {
            return NO;
        }
        if (definition < -1 || definition >= program.size()) {
            return BAD;
        }
        int old = stop;
        stop = definition;
        return old;
    }

    int back(int n) {
        if (program == null) {
            return NO;
        }
        if (n < 0 || n > now.steps) {
            return BAD;
        }
        for (int i = 0; i < n; i++) {
            now = before.pop();
        }
        state = 0;
        error = 0;
        return now.steps;
    }

    /** Each kept node with its way. */
    private Map<Integer, List<Integer>> ways() {
        Map<Integer, List<Integer>> ways = new HashMap<>();
        for (int d = 0; d < program.size(); d++) {
            ways.put(d, List.of(d));
        }
        for (List<Integer> stack : now.stacks) {
            for (int node : stack) {
                ways.put(node, List.of(node));
            }
        }
        // again and again, until no way becomes better
        boolean better = true;
        while (better) {
            better = false;
            for (int node : new ArrayList<>(ways.keySet())) {
                for (int had : now.nodes[node].has()) {
                    List<Integer> way = new ArrayList<>(ways.get(node));
                    way.add(had);
                    if (!ways.containsKey(had) || isBetter(way, ways.get(had))) {
                        ways.put(had, way);
                        better = true;
                    }
                }
            }
        }
        return ways;
    }

    private static boolean isBetter(List<Integer> a, List<Integer> b) {
        if (a.size() != b.size()) {
            return a.size() < b.size();
        }
        for (int i = 0; i < a.size(); i++) {
            if (!a.get(i).equals(b.get(i))) {
                return a.get(i) < b.get(i);
            }
        }
        return false;
    }

    int sweep() {
        if (program == null) {
            return NO;
        }
        Map<Integer, List<Integer>> ways = ways();
        int used = now.used();
        // what a STEP copied must stay as it was
        now = now.copy();
        for (int node = 0; node < 400; node++) {
            now.nodes[node] = ways.containsKey(node) ? now.nodes[node] : null;
        }
        state = 0;
        error = 0;
        return used - ways.size();
    }

    int count(int what) {
        if (program == null) {
            return NO;
        }
        switch (what) {
            case 0: return now.used();
            case 1: return ways().size();
            case 2: return now.stack().size();
            case 3: return now.stacks.size() - 1;
            case 4: return now.steps;
            case 5: return now.made;
            case 6: return now.most;
            default: return BAD;
        }
    }

    int node(int node, int what) {
        if (program == null) {
            return NO;
        }
        if (node < 0 || node >= 400 || now.nodes[node] == null) {
            return BAD;
        }
        Node one = now.nodes[node];
        switch (what) {
            case 0: return one.kind;
            case 1: return one.first;
            case 2: return one.second;
            case 3: return one.maker;
            case 4: return placesThatHave(node);
            case 5: return ways().containsKey(node) ? 1 : 0;
            default: return BAD;
        }
    }

    private int placesThatHave(int node) {
        List<Integer> places = new ArrayList<>();
        for (int kept : ways().keySet()) {
            places.addAll(now.nodes[kept].has());
        }
        now.stacks.forEach(places::addAll);
        return (int) places.stream().filter(p -> p == node).count();
    }

    int top(int place) {
        if (program == null) {
            return NO;
        }
        return place < 0 || place >= now.stack().size() ? BAD : now.fromTop(place);
    }

    int why(int i) {
        if (program == null) {
            return NO;
        }
        if (i < 0 || i >= now.stacks.size() - 1) {
            return BAD;
        }
        List<Integer> stack = now.stacks.get(now.stacks.size() - 2 - i);
        return stack.get(stack.size() - 1);
    }

    int way(int node, int k) {
        if (program == null) {
            return NO;
        }
        List<Integer> way = ways().get(node);
        if (way == null || k < -1 || k >= way.size()) {
            return BAD;
        }
        return k == -1 ? way.size() : way.get(k);
    }

    int profile(int definition, int what) {
        if (program == null) {
            return NO;
        }
        boolean bad = definition < 0 || definition >= program.size() || what < 0 || what > 1;
        return bad ? BAD : now.profile[definition][what];
    }

    int rest() {
        if (program == null || state != 1) {
            return NO;
        }
        int kind = now.nodes[now.fromTop(0)].kind;
        return kind == NUMBER ? 0 : kind == PAIR ? 1 : kind == NIL ? 2 : 3;
    }

    int share() {
        if (program == null) {
            throw new ArithmeticException();
        }
        return 1000 * ways().size() / now.used();
    }
}
