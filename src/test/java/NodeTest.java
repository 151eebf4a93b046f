/** Promises 14 to 20: node, top, why, way, profile, rest, share. */
public final class NodeTest {
    private static final Sheet SHEET = new Sheet("node");
    private static final int[] FAR = {Integer.MIN_VALUE, Integer.MIN_VALUE + 1, Integer.MAX_VALUE - 1,
        Integer.MAX_VALUE};

    /** 400 nodes are made by it after 794 STEPS. */
    private static final String NODES = "main=loop 0;loop n=loop n;";

    public static void main(String[] args) {
        kinds();
        firstAndSecond();
        makers();
        placesThatHaveIt();
        whetherKept();
        nodeRefuses();
        tops();
        topRefuses();
        whys();
        whyRefuses();
        waysByLength();
        shortestWays();
        lesserNumbersFirst();
        wayRefuses();
        profiles();
        profileRefuses();
        rests();
        restRefuses();
        shares();
        shareThrows();
        SHEET.end();
    }

    private static void node(NeedSteps x, int node, int kind, int first, int second) {
        SHEET.due("node(" + node + ", 0)", x.node(node, 0), kind);
        SHEET.due("node(" + node + ", 1)", x.node(node, 1), first);
        SHEET.due("node(" + node + ", 2)", x.node(node, 2), second);
    }

    private static void kinds() {
        SHEET.sentence("Promise 14: node", "Of a node: what = 0 its kind (0 NUMBER, 1 APPLY, 2 FUNCTION, 3 PRIMITIVE, 4 PAIR, 5 NIL, 6 POINTER),");
        NeedSteps x = Sheet.program("g a=a;main=let p=cons 5 nil;in seq p g;");
        SHEET.due("node(0, 0)", x.node(0, 0), 2);
        SHEET.due("node(1, 0)", x.node(1, 0), 2);
        x.step(1);
        int[] kinds = {2, 6, 6, 3, 0, 5, 1, 1, 3, 1, 1};
        for (int node = 0; node < kinds.length; node++) {
            SHEET.due("node(" + node + ", 0)", x.node(node, 0), kinds[node]);
        }
        x.step(6);
        SHEET.due("node(7, 0): a PAIR", x.node(7, 0), 4);
    }

    private static void firstAndSecond() {
        SHEET.sentence("Promise 14: node", "1 the NUMBER, DEFINITION, PRIMITIVE (0 add, 1 sub ..), first node, or node pointed to (NIL: 0), 2 the second node (others: -3),");
        NeedSteps x = Sheet.program("g a=a;main=let p=cons 5 nil;in seq p g;");
        node(x, 0, 2, 0, -3);
        node(x, 1, 2, 1, -3);
        x.step(1);
        node(x, 1, 6, 10, -3);
        node(x, 2, 6, 7, -3);
        node(x, 3, 3, 7, -3);
        node(x, 4, 0, 5, -3);
        node(x, 5, 5, 0, -3);
        node(x, 6, 1, 3, 4);
        node(x, 7, 1, 6, 5);
        node(x, 8, 3, 12, -3);
        node(x, 9, 1, 8, 2);
        node(x, 10, 1, 9, 0);
        // an APPLY that becomes another thing has no second node any more, a PAIR has
        x.step(99);
        node(x, 7, 4, 4, 5);
        node(x, 10, 6, 0, -3);
        NeedSteps y = Sheet.program("main=add 1 2;");
        y.step(9);
        node(y, 5, 0, 3, -3);
        String[] done = {"add 1 2", "sub 1 2", "mul 1 2", "quo 1 2", "less 1 2", "same 1 2", "empty nil", "if 1 2 3",
            "if 0 2 3", "seq 1 2"};
        for (int i = 0; i < done.length; i++) {
            NeedSteps one = Sheet.program("main=" + done[i] + ";");
            while (one.next() != 4 && one.count(4) < 9) {
                one.step(1);
            }
            one.step(1);
            SHEET.due("node(top(0), 0) of " + done[i], one.node(one.top(0), 0), i < 7 ? 0 : 6);
            SHEET.due("node(top(0), 2) of " + done[i], one.node(one.top(0), 2), -3);
        }
        // NUMBERS that are as the refusals are
        SHEET.number("main=sub 0 1;", -1);
        SHEET.number("main=sub 0 2;", -2);
        SHEET.number("main=sub 0 3;", -3);
        String[] words = {"add", "sub", "mul", "quo", "less", "same", "if", "cons", "nil", "head", "tail", "empty",
            "seq"};
        for (int p = 0; p < words.length; p++) {
            NeedSteps one = Sheet.program("main=" + words[p] + ";");
            one.step(9);
            node(one, 1, p == 8 ? 5 : 3, p == 8 ? 0 : p, -3);
        }
    }

    private static void makers() {
        SHEET.sentence("Promise 14: node", "3 the DEFINITION while which was MADE it was made (the beginning: -3),");
        NeedSteps x = Sheet.program("f a=add a 1;main=g 5;g a=f(f a);");
        for (int node = 0; node < 3; node++) {
            SHEET.due("node(" + node + ", 3) at first", x.node(node, 3), -3);
        }
        x.step(2000);
        SHEET.due("node(1, 3): a POINTER by now", x.node(1, 3), -3);
        SHEET.due("node(3, 3): the 5", x.node(3, 3), 1);
        SHEET.due("node(4, 3): the APPLY of g", x.node(4, 3), 1);
        SHEET.due("node(4, 0): a POINTER by now", x.node(4, 0), 6);
        SHEET.due("node(5, 3)", x.node(5, 3), 2);
        SHEET.due("node(6, 3)", x.node(6, 3), 2);
        for (int node = 7; node < 15; node++) {
            SHEET.due("node(" + node + ", 3)", x.node(node, 3), 0);
        }
        SHEET.due("count(0)", x.count(0), 15);
        // a number that was free before is made by another one then
        NeedSteps y = Sheet.program("main=seq(add 1 2)(f 5);f x=add x x;");
        y.step(8);
        SHEET.due("node(3, 3)", y.node(3, 3), 0);
        y.sweep();
        y.step(4);
        SHEET.due("node(3, 3)", y.node(3, 3), 1);
    }

    private static void placesThatHaveIt() {
        SHEET.sentence("Promise 14: node", "4 how many places of kept nodes and STACKS have it,");
        // 1 POINTER a, 2 of 7, 3 cons, 4 and 5 APPLYS
        NeedSteps x = Sheet.program("main=let a=7;in cons a a;");
        SHEET.due("node(0, 4): the STACK", x.node(0, 4), 1);
        x.step(1);
        SHEET.due("node(1, 4): two APPLYS", x.node(1, 4), 2);
        SHEET.due("node(2, 4): a POINTER", x.node(2, 4), 1);
        SHEET.due("node(5, 4): a POINTER and the STACK", x.node(5, 4), 2);
        SHEET.due("node(0, 4): nothing has it", x.node(0, 4), 0);
        x.step(3);
        SHEET.due("node(5, 0): a PAIR", x.node(5, 0), 4);
        SHEET.due("node(1, 4): twice in a PAIR, not in what is not kept", x.node(1, 4), 2);
        SHEET.due("node(3, 4): had by one that is not kept", x.node(3, 4), 0);
        // twice in one APPLY
        NeedSteps twice = Sheet.program("main=let f=cons;in f f;");
        twice.step(1);
        SHEET.due("node(1, 4)", twice.node(1, 4), 2);
        // places of STACKS on the DUMP count, too
        NeedSteps y = Sheet.program("main=add(add 1 2)3;");
        y.step(4);
        SHEET.due("node(8, 4): an APPLY and a STACK", y.node(8, 4), 2);
        SHEET.due("node(6, 4): an APPLY and the STACK", y.node(6, 4), 2);
        SHEET.due("node(1, 4): an APPLY and a STACK", y.node(1, 4), 2);
        SHEET.due("node(9, 4): a POINTER and a STACK", y.node(9, 4), 2);
        NeedSteps z = Sheet.program("main=let e=e;in e;");
        z.step(1);
        SHEET.due("node(1, 4): itself, main's and the STACK", z.node(1, 4), 3);
        // a NUMBER, a FUNCTION, a PRIMITIVE, NIL have no node, whichever number they have
        NeedSteps numbers = Sheet.program("main=cons 4 sub nil 1 0;f=1;");
        numbers.step(1);
        SHEET.due("node(4, 4): an APPLY", numbers.node(4, 4), 1);
        SHEET.due("node(1, 4): no place", numbers.node(1, 4), 0);
        SHEET.due("node(0, 4): no place", numbers.node(0, 4), 0);
        // as many as there can be: 600 places and two nodes' own
        NeedSteps places = Sheet.program("main=let x=x 1;in x;");
        places.step(2000);
        SHEET.due("node(3, 4)", places.node(3, 4), 601);
        SHEET.due("node(2, 4)", places.node(2, 4), 1);
    }

    private static void whetherKept() {
        SHEET.sentence("Promise 14: node", "5 whether it is kept.");
        NeedSteps x = Sheet.program("main=add 1 2;f=3;");
        SHEET.due("node(1, 5): a DEFINITION's, that nothing has", x.node(1, 5), 1);
        x.step(1);
        for (int node = 0; node < 7; node++) {
            SHEET.due("node(" + node + ", 5)", x.node(node, 5), 1);
        }
        x.step(3);
        for (int node = 0; node < 7; node++) {
            SHEET.due("node(" + node + ", 5)", x.node(node, 5), node < 2 || node == 6 ? 1 : 0);
        }
        x.back(1);
        SHEET.due("node(2, 5): kept again", x.node(2, 5), 1);
    }

    private static void nodeRefuses() {
        SHEET.sentence("Promise 14: node", "BAD: no such node, or what; NO: no program.");
        NeedSteps x = Sheet.program("main=add 1 2;");
        SHEET.due("node(1, 0): not yet made", x.node(1, 0), NeedSteps.BAD);
        x.step(4);
        for (int what = 0; what <= 5; what++) {
            SHEET.due("node(-1, " + what + ")", x.node(-1, what), NeedSteps.BAD);
            SHEET.due("node(6, " + what + "): beyond the last", x.node(6, what), NeedSteps.BAD);
            SHEET.due("node(399, " + what + "): free", x.node(399, what), NeedSteps.BAD);
            SHEET.due("node(400, " + what + ")", x.node(400, what), NeedSteps.BAD);
            for (int node : FAR) {
                SHEET.due("node(" + node + ", " + what + ")", x.node(node, what), NeedSteps.BAD);
            }
        }
        for (int node = 0; node <= 5; node++) {
            SHEET.due("node(" + node + ", -1)", x.node(node, -1), NeedSteps.BAD);
            SHEET.due("node(" + node + ", 6)", x.node(node, 6), NeedSteps.BAD);
            for (int what : FAR) {
                SHEET.due("node(" + node + ", " + what + ")", x.node(node, what), NeedSteps.BAD);
            }
        }
        x.sweep();
        for (int what = 0; what <= 5; what++) {
            SHEET.due("node(1, " + what + "): swept", x.node(1, what), NeedSteps.BAD);
        }
        NeedSteps full = Sheet.program(NODES);
        full.step(2000);
        SHEET.due("node(399, 0)", full.node(399, 0), 1);
        SHEET.due("node(400, 0)", full.node(400, 0), NeedSteps.BAD);
        NeedSteps none = new NeedSteps();
        SHEET.due("node(0, 0) without a program", none.node(0, 0), NeedSteps.NO);
        SHEET.due("node(-1, 6) without a program", none.node(-1, 6), NeedSteps.NO);
    }

    private static void tops() {
        SHEET.sentence("Promise 15: top", "The node at a place of the STACK, 0 the top.");
        NeedSteps x = Sheet.program("main=add(mul(sub 9 1)2)3;");
        SHEET.due("top(0) at first", x.top(0), 0);
        x.step(9);
        SHEET.due("count(3)", x.count(3), 2);
        SHEET.due("count(2)", x.count(2), 3);
        SHEET.due("node(top(0), 1): sub", x.node(x.top(0), 1), 1);
        SHEET.due("top(0): what top(1) applies", x.top(0), x.node(x.top(1), 1));
        SHEET.due("top(1): what top(2) applies", x.top(1), x.node(x.top(2), 1));
        NeedSteps full = Sheet.program("main=let x=x 1;in x;");
        full.step(2000);
        SHEET.due("top(0)", full.top(0), 3);
        SHEET.due("top(599)", full.top(599), 3);
    }

    private static void topRefuses() {
        SHEET.sentence("Promise 15: top", "0 the top. BAD; NO.");
        NeedSteps x = Sheet.program("main=add(mul(sub 9 1)2)3;");
        SHEET.due("top(1) of one", x.top(1), NeedSteps.BAD);
        SHEET.due("top(-1) of one", x.top(-1), NeedSteps.BAD);
        x.step(9);
        SHEET.due("top(3): not the DUMP's", x.top(3), NeedSteps.BAD);
        SHEET.due("top(-1)", x.top(-1), NeedSteps.BAD);
        for (int place : FAR) {
            SHEET.due("top(" + place + ")", x.top(place), NeedSteps.BAD);
        }
        NeedSteps full = Sheet.program("main=let x=x 1;in x;");
        full.step(2000);
        SHEET.due("top(600)", full.top(600), NeedSteps.BAD);
        SHEET.due("top(0) without a program", new NeedSteps().top(0), NeedSteps.NO);
        SHEET.due("top(-1) without a program", new NeedSteps().top(-1), NeedSteps.NO);
    }

    private static void whys() {
        SHEET.sentence("Promise 16: why", "Who needs it: of STACK i of the DUMP, 0 the latest, the node on its top (a PRIMITIVE).");
        NeedSteps x = Sheet.program("main=add(mul(sub 9 1)2)3;");
        x.step(4);
        SHEET.due("node(why(0), 1): add", x.node(x.why(0), 1), 0);
        x.step(5);
        SHEET.due("count(3)", x.count(3), 2);
        SHEET.due("node(why(0), 0): a PRIMITIVE", x.node(x.why(0), 0), 3);
        SHEET.due("node(why(0), 1): mul", x.node(x.why(0), 1), 2);
        SHEET.due("node(why(1), 1): add", x.node(x.why(1), 1), 0);
        x.step(2);
        SHEET.due("node(why(0), 1): add", x.node(x.why(0), 1), 0);
        NeedSteps need = Sheet.program("main=g head;g h=" + "h(".repeat(11) + "h(g h)" + ")".repeat(11) + ";");
        need.step(2000);
        SHEET.due("why(0)", need.why(0), 2);
        SHEET.due("why(298): the first of 299", need.why(298), 2);
    }

    private static void whyRefuses() {
        SHEET.sentence("Promise 16: why", "(a PRIMITIVE). BAD; NO.");
        NeedSteps x = Sheet.program("main=add(mul(sub 9 1)2)3;");
        SHEET.due("why(0): the DUMP is empty", x.why(0), NeedSteps.BAD);
        SHEET.due("why(-1): the DUMP is empty", x.why(-1), NeedSteps.BAD);
        x.step(9);
        SHEET.due("why(2) of two", x.why(2), NeedSteps.BAD);
        SHEET.due("why(-1)", x.why(-1), NeedSteps.BAD);
        for (int i : FAR) {
            SHEET.due("why(" + i + ")", x.why(i), NeedSteps.BAD);
        }
        x.step(2);
        SHEET.due("why(1) of one", x.why(1), NeedSteps.BAD);
        x.step(2);
        SHEET.due("why(0): the DUMP is empty", x.why(0), NeedSteps.BAD);
        NeedSteps need = Sheet.program("main=g head;g h=" + "h(".repeat(11) + "h(g h)" + ")".repeat(11) + ";");
        need.step(2000);
        SHEET.due("why(299) of 299", need.why(299), NeedSteps.BAD);
        SHEET.due("why(0) without a program", new NeedSteps().why(0), NeedSteps.NO);
        SHEET.due("why(-1) without a program", new NeedSteps().why(-1), NeedSteps.NO);
    }

    private static void way(NeedSteps x, int node, int... want) {
        SHEET.due("way(" + node + ", -1)", x.way(node, -1), want.length);
        for (int k = 0; k < want.length; k++) {
            SHEET.due("way(" + node + ", " + k + ")", x.way(node, k), want[k]);
        }
        SHEET.due("way(" + node + ", beyond)", x.way(node, want.length), NeedSteps.BAD);
    }

    private static void waysByLength() {
        SHEET.sentence("Promise 17: way", "The way to a kept node: how many nodes are on it (k = -1), the k-th, from its beginning on: a DEFINITION's first node or one of a STACK;");
        // 1 f; 2 POINTER a, 3 POINTER b; 4 of 7; 5 cons, 6 of 1, 7 and 8 APPLYS (cons 1 a);
        // 9 f's APPLY of b, 10 of that to a
        NeedSteps x = Sheet.program("main=let a=7;b=cons 1 a;in f b a;f p q=cons q(cons p p);");
        way(x, 0, 0);
        way(x, 1, 1);
        x.step(1);
        way(x, 0, 0);
        way(x, 1, 1);
        way(x, 10, 10);
        way(x, 9, 10, 9);
        way(x, 2, 10, 2);
        way(x, 4, 10, 2, 4);
        way(x, 3, 10, 9, 3);
        way(x, 8, 10, 9, 3, 8);
        way(x, 5, 10, 9, 3, 8, 7, 5);
        // one in the middle of the STACK, and of a STACK on the DUMP, begins a way
        x.step(1);
        way(x, 9, 9);
        way(x, 3, 9, 3);
        NeedSteps y = Sheet.program("main=add(add 1 2)3;");
        y.step(6);
        SHEET.due("count(3)", y.count(3), 1);
        for (int node : new int[] {9, 8, 1, 6, 5, 2}) {
            way(y, node, node);
        }
        way(y, 7, 9, 7);
        way(y, 3, 5, 3);
        // as long as can be: POINTERS one behind the other
        NeedSteps full = Sheet.program(NODES);
        full.step(2000);
        SHEET.due("way(399, -1): on the STACK", full.way(399, -1), 1);
        SHEET.due("way(398, -1)", full.way(398, -1), 397);
        SHEET.due("way(398, 0)", full.way(398, 0), 0);
        SHEET.due("way(398, 1)", full.way(398, 1), 3);
        SHEET.due("way(398, 396)", full.way(398, 396), 398);
        SHEET.due("way(398, 397)", full.way(398, 397), NeedSteps.BAD);
    }

    private static void shortestWays() {
        SHEET.sentence("Promise 17: way", "the way is the shortest;");
        // 3 is b: by 14, which has it, not by 16, 14, 13
        NeedSteps x = Sheet.program("main=let a=7;b=cons 1 a;in f b a;f p q=cons q(cons p p);");
        x.step(4);
        // f: 11 cons, 12 cons, 13 cons p, 14 cons p p, 15 cons q, 16 of that to 14
        SHEET.due("top(0)", x.top(0), 16);
        way(x, 14, 16, 14);
        way(x, 3, 16, 14, 3);
        way(x, 2, 16, 15, 2);
        way(x, 8, 16, 14, 3, 8);
        // short by greater numbers, long by lesser ones
        NeedSteps y = Sheet.program("main=let a=7;in cons(cons(cons a 1)2)a;");
        y.step(1);
        SHEET.due("way(1, -1)", y.way(1, -1), 2);
        SHEET.due("way(1, 0)", y.way(1, 0), y.top(0));
    }

    /** Of ways that are as short, that with the lesser number where they differ first. */
    private static void lesserNumbersFirst() {
        SHEET.sentence("Promise 17: way", "of several that whose nodes have lesser numbers where two differ first.");
        // 1 POINTER x to 4 (2 3); 5 cons; 9 (8 x), 8 (6 7); 13 (12 11), 12 (10 x); 15 (14 13)
        NeedSteps x = Sheet.program("main=let x=cons 5;in cons(add 1 x)(add x 2);");
        x.step(4);
        SHEET.due("node(top(0), 0): a PAIR", x.node(x.top(0), 0), 4);
        way(x, 9, 15, 9);
        way(x, 13, 15, 13);
        way(x, 1, 15, 9, 1);
        way(x, 4, 15, 9, 1, 4);
        way(x, 12, 15, 13, 12);
        NeedSteps y = Sheet.program("main=let x=5;in cons(f x)(g x);f a=a;g a=a;");
        y.step(4);
        // 3 POINTER x, 4 of 5, 5 cons, 6 (f x), 7 (g x), 8, 9: both are as short
        way(y, 3, 9, 6, 3);
        // the lesser stands second in the PAIR: 2 a, 3 b, then cons b a is (9: 3, 2)
        NeedSteps z = Sheet.program("main=let a=c;b=c;c=7;in cons b a;");
        z.step(1);
        z.step(99);
        SHEET.due("node(top(0), 1)", z.node(z.top(0), 1), 2);
        SHEET.due("node(top(0), 2)", z.node(z.top(0), 2), 1);
        way(z, 3, z.top(0), 1, 3);
        beginnings();
    }

    /**
     * f, g and c have ways of three to the same node. The first node on f's is the least, the
     * second one the greatest: where two differ first counts.
     */
    private static void beginnings() {
        NeedSteps x = Sheet.program("main=seq c(seq g(seq f 5));f=head c;g=head c;c=cons(cons 1 2)3;");
        x.step(2000);
        SHEET.due("rest()", x.rest(), 0);
        x.sweep();
        int f = x.node(1, 1);
        int g = x.node(2, 1);
        int c = x.node(3, 1);
        int shared = x.node(c, 1);
        SHEET.due("f's leads there", x.node(f, 1), shared);
        SHEET.due("g's leads there", x.node(g, 1), shared);
        SHEET.holds("the second ones: c's, g's, f's", c < g && g < f);
        way(x, f, 1, f);
        way(x, g, 2, g);
        way(x, c, 3, c);
        way(x, shared, 1, f, shared);
        way(x, x.node(shared, 1), 1, f, shared, x.node(shared, 1));
    }

    private static void wayRefuses() {
        SHEET.sentence("Promise 17: way", "BAD: no such node, kept one, place; NO.");
        NeedSteps x = Sheet.program("main=add 1 2;");
        SHEET.due("way(1, -1): no such node yet", x.way(1, -1), NeedSteps.BAD);
        x.step(4);
        for (int k = -1; k <= 0; k++) {
            SHEET.due("way(1, " + k + "): not kept", x.way(1, k), NeedSteps.BAD);
            SHEET.due("way(6, " + k + "): no such node", x.way(6, k), NeedSteps.BAD);
            SHEET.due("way(-1, " + k + ")", x.way(-1, k), NeedSteps.BAD);
            SHEET.due("way(399, " + k + ")", x.way(399, k), NeedSteps.BAD);
            SHEET.due("way(400, " + k + ")", x.way(400, k), NeedSteps.BAD);
            for (int node : FAR) {
                SHEET.due("way(" + node + ", " + k + ")", x.way(node, k), NeedSteps.BAD);
            }
        }
        SHEET.due("way(5, 0)", x.way(5, 0), 5);
        SHEET.due("way(5, 1)", x.way(5, 1), NeedSteps.BAD);
        SHEET.due("way(5, -2)", x.way(5, -2), NeedSteps.BAD);
        for (int k : FAR) {
            SHEET.due("way(5, " + k + ")", x.way(5, k), NeedSteps.BAD);
        }
        x.sweep();
        SHEET.due("way(1, -1): swept", x.way(1, -1), NeedSteps.BAD);
        SHEET.due("way(0, -1) without a program", new NeedSteps().way(0, -1), NeedSteps.NO);
        SHEET.due("way(-1, -2) without a program", new NeedSteps().way(-1, -2), NeedSteps.NO);
    }

    private static void profiles() {
        SHEET.sentence("Promise 18: profile", "Of a DEFINITION: what = 0 how often it was MADE, 1 how many nodes it made.");
        NeedSteps x = Sheet.program("main=add(f 1)(f 2);f a=g(g a);g a=add a 1;h=1;");
        for (int d = 0; d < 4; d++) {
            SHEET.due("profile at first", x.profile(d, 0), 0);
            SHEET.due("profile at first", x.profile(d, 1), 0);
        }
        x.step(2000);
        SHEET.due("profile(0, 0)", x.profile(0, 0), 1);
        SHEET.due("profile(0, 1)", x.profile(0, 1), 7);
        SHEET.due("profile(1, 0)", x.profile(1, 0), 2);
        SHEET.due("profile(1, 1)", x.profile(1, 1), 4);
        SHEET.due("profile(2, 0)", x.profile(2, 0), 4);
        SHEET.due("profile(2, 1)", x.profile(2, 1), 16);
        SHEET.due("profile(3, 0): never", x.profile(3, 0), 0);
        SHEET.due("profile(3, 1): never", x.profile(3, 1), 0);
        SHEET.due("count(5)", x.count(5), 4 + 7 + 4 + 16);
        x.sweep();
        SHEET.due("profile(2, 1): swept ones were made, too", x.profile(2, 1), 16);
        // two POINTERS, NIL, cons, two APPLYS
        NeedSteps y = Sheet.program("main=f 1;f a=let b=a;c=nil;in cons b c;");
        y.step(3);
        SHEET.due("profile(1, 1) of a let", y.profile(1, 1), 6);
        SHEET.due("count(5)", y.count(5), 10);
        // MADE, but no node is made by it
        NeedSteps none = Sheet.program("main=f 1;f a=a;");
        none.step(9);
        SHEET.due("profile(1, 0)", none.profile(1, 0), 1);
        SHEET.due("profile(1, 1)", none.profile(1, 1), 0);
        // the last of twenty
        StringBuilder twenty = new StringBuilder("main=z;");
        for (int d = 1; d < 19; d++) {
            twenty.append('f').append(d).append("=2;");
        }
        NeedSteps last = Sheet.program(twenty + "z=add 1;");
        last.step(9);
        SHEET.due("profile(19, 0)", last.profile(19, 0), 1);
        SHEET.due("profile(19, 1)", last.profile(19, 1), 3);
        SHEET.due("profile(18, 0)", last.profile(18, 0), 0);
    }

    private static void profileRefuses() {
        SHEET.sentence("Promise 18: profile", "nodes it made. BAD; NO.");
        NeedSteps x = Sheet.program("main=add(f 1)(f 2);f a=a;");
        x.step(2000);
        for (int what = 0; what <= 1; what++) {
            SHEET.due("profile(2, " + what + ") of two", x.profile(2, what), NeedSteps.BAD);
            SHEET.due("profile(-1, " + what + ")", x.profile(-1, what), NeedSteps.BAD);
            SHEET.due("profile(20, " + what + ")", x.profile(20, what), NeedSteps.BAD);
            for (int d : FAR) {
                SHEET.due("profile(" + d + ", " + what + ")", x.profile(d, what), NeedSteps.BAD);
            }
        }
        SHEET.due("profile(0, 2)", x.profile(0, 2), NeedSteps.BAD);
        SHEET.due("profile(0, -1)", x.profile(0, -1), NeedSteps.BAD);
        for (int what : FAR) {
            SHEET.due("profile(0, " + what + ")", x.profile(0, what), NeedSteps.BAD);
        }
        SHEET.due("profile(0, 0) without a program", new NeedSteps().profile(0, 0), NeedSteps.NO);
        SHEET.due("profile(-1, 2) without a program", new NeedSteps().profile(-1, 2), NeedSteps.NO);
    }

    private static void rests() {
        SHEET.sentence("Promise 19: rest", "What it came to, AT REST (state 1): 0 a NUMBER, 1 a PAIR, 2 NIL, 3 another VALUE.");
        String[] texts = {"main=1;", "main=cons 1 2;", "main=nil;", "main=add 1;", "main=add;", "main=f;f a=a;",
            "main=f 1;f a b=a;", "main=if 1 2;", "main=cons 1;", "main=add 1 2;", "main=tail(cons 1 nil);",
            "main=let p=q;q=0;in p;", "main=f 1 2 3 4 5 6 7;f a b c d e f g h=a;"};
        int[] rests = {0, 1, 2, 3, 3, 3, 3, 3, 3, 0, 2, 0, 3};
        for (int i = 0; i < texts.length; i++) {
            NeedSteps x = Sheet.program(texts[i]);
            x.step(2000);
            SHEET.due("rest() of " + texts[i], x.rest(), rests[i]);
            SHEET.due("rest() again", x.rest(), rests[i]);
            SHEET.due("state()", x.state(), 1);
        }
    }

    private static void restRefuses() {
        SHEET.sentence("Promise 19: rest", "NO: no program, or another state.");
        NeedSteps x = new NeedSteps();
        SHEET.due("rest() without a program", x.rest(), NeedSteps.NO);
        Sheet.feed(x, "main=1;");
        x.read();
        SHEET.due("rest() at first", x.rest(), NeedSteps.NO);
        x.step(1);
        SHEET.due("rest(): a NUMBER, but state 0", x.rest(), NeedSteps.NO);
        x.step(1);
        SHEET.due("rest(): state 1", x.rest(), 0);
        x.sweep();
        SHEET.due("rest() behind sweep()", x.rest(), NeedSteps.NO);
        x.step(1);
        SHEET.due("rest()", x.rest(), 0);
        x.back(0);
        SHEET.due("rest() behind back(0)", x.rest(), NeedSteps.NO);
        x.step(1);
        SHEET.due("rest()", x.rest(), 0);
        x.read();
        SHEET.due("rest() behind a FAULT", x.rest(), NeedSteps.NO);
        NeedSteps error = Sheet.program("main=1 2;");
        error.step(2000);
        SHEET.due("rest() with an ERROR", error.rest(), NeedSteps.NO);
        NeedSteps full = Sheet.program(NODES);
        full.step(2000);
        SHEET.due("rest() when FULL", full.rest(), NeedSteps.NO);
    }

    private static void shares() {
        SHEET.sentence("Promise 20: share", "1000 times the kept nodes by those that are not free, cut.");
        NeedSteps x = Sheet.program("main=add 1 2;");
        SHEET.due("share() at first", x.share(), 1000);
        x.step(2000);
        SHEET.due("share(): 2 of 6, cut", x.share(), 333);
        x.sweep();
        SHEET.due("share() swept", x.share(), 1000);
        NeedSteps y = Sheet.program("main=seq(add 1 2)(f 5);f x=add x x;");
        y.step(7);
        SHEET.due("share(): 8 of 12, cut", y.share(), 666);
        // few of many: 6 of 328
        NeedSteps few = Sheet.program("main=sum(upto 1 9);sum l=if(empty l)0(add(head l)(sum(tail l)));"
            + "upto a b=if(less b a)nil(cons a(upto(add a 1)b));");
        few.step(2000);
        SHEET.due("share()", few.share(), 18);
        NeedSteps full = Sheet.program(NODES);
        full.step(2000);
        SHEET.due("share(): 400 of 400", full.share(), 1000);
    }

    private static void shareThrows() {
        SHEET.sentence("Promise 20: share", "ArithmeticException: there is no program (none is).");
        NeedSteps x = new NeedSteps();
        SHEET.holds("share() of a new object throws", Refused.throwsArithmetic(x));
        Sheet.feed(x, "main=1;");
        SHEET.holds("share() ahead of read() throws", Refused.throwsArithmetic(x));
        x.read();
        SHEET.holds("share() of a program throws nothing", !Refused.throwsArithmetic(x));
        x.step(9);
        SHEET.holds("share() AT REST throws nothing", !Refused.throwsArithmetic(x));
        x.read();
        SHEET.holds("share() behind a FAULT throws", Refused.throwsArithmetic(x));
        SHEET.holds("share() throws again", Refused.throwsArithmetic(x));
        SHEET.due("state() behind it", x.state(), NeedSteps.NO);
        Sheet.feed(x, "main=1;");
        SHEET.due("read() behind it", x.read(), 1);
    }
}
