/** What the Terms say of NODES, of what is MADE, of a STEP, of VALUES, and of FULL. */
public final class MachineTest {
    private static final Sheet SHEET = new Sheet("machine");
    private static final String[] PRIMITIVES = {"add", "sub", "mul", "quo", "less", "same", "if", "cons",
        "nil", "head", "tail", "empty", "seq"};
    private static final int[] NEEDS = {2, 2, 2, 2, 2, 2, 3, 2, 0, 1, 1, 1, 2};

    /** 199 nodes: ten times ten NUMBERS with nine APPLYS, and nine APPLYS of these. */
    private static final String NODES_199 = "(1(1)1(1)1(1)1(1)1(1))".repeat(10);

    public static void main(String[] args) {
        leastFreeNumber();
        numbersWrapAround();
        atFirst();
        madeOfOne();
        madeOfNames();
        madeOfAtoms();
        madeOfLets();
        pointerAndApply();
        functions();
        functionsOfFewer();
        primitivesOfFewer();
        needsOfPrimitives();
        pointersFollowed();
        ringsOfPointers();
        wantsOfPrimitives();
        firstThingIsNeeded();
        needsItself();
        anotherSort();
        noResult();
        results();
        notFollowed();
        values();
        valuesByOne();
        stackComesBack();
        moreBelow();
        nothingChanges();
        fullOfSteps();
        noneToDoBehind5000();
        fullOfPlaces();
        fullOfNodes();
        SHEET.end();
    }

    private static void node(NeedSteps x, int node, int kind, int first, int second) {
        SHEET.due("node(" + node + ", 0)", x.node(node, 0), kind);
        SHEET.due("node(" + node + ", 1)", x.node(node, 1), first);
        SHEET.due("node(" + node + ", 2)", x.node(node, 2), second);
    }

    private static NeedSteps stepped(String text, int steps) {
        NeedSteps x = Sheet.program(text);
        SHEET.due("step(" + steps + ") of " + text, x.step(steps), steps);
        return x;
    }

    /** 2 seq; 3 add, 4 of 1, 5 of 2, 6 and 7 APPLYS; 8 of 5, 9 APPLY of f; 10 and 11 APPLYS. */
    private static void leastFreeNumber() {
        SHEET.sentence("Terms", "NODES are numbered from 0, 400 at most; a new one has the least free number.");
        NeedSteps x = stepped("main=seq(add 1 2)(f 5);f x=add x x;", 8);
        SHEET.due("node(0, 0)", x.node(0, 0), 6);
        SHEET.due("node(-1, 0)", x.node(-1, 0), NeedSteps.BAD);
        SHEET.due("sweep(): 3, 4, 5, 6", x.sweep(), 4);
        SHEET.due("step(4)", x.step(4), 4);
        node(x, 3, 3, 0, -3);
        node(x, 4, 1, 3, 8);
        node(x, 5, 1, 4, 8);
        SHEET.due("node(6, 0): free", x.node(6, 0), NeedSteps.BAD);
        SHEET.due("node(12, 0): free", x.node(12, 0), NeedSteps.BAD);
        // holes at two places: the lower is filled first, then the higher, then the end
        NeedSteps y = stepped("main=seq(add 1 2)(seq(add 3 4)(f 5));f x=cons(cons x x)(cons x x);", 14);
        int used = y.count(0);
        int freed = y.sweep();
        int[] free = new int[freed + 2];
        int found = 0;
        for (int node = 0; node < used && found < freed; node++) {
            if (y.node(node, 0) == NeedSteps.BAD) {
                free[found++] = node;
            }
        }
        SHEET.holds("there is a hole between kept ones", free[freed - 1] - free[0] > freed);
        free[freed] = used;
        free[freed + 1] = used + 1;
        y.stopAt(1);
        y.step(99);
        SHEET.due("next()", y.next(), 2);
        y.step(1);
        // cons, cons, APPLY, APPLY, cons, APPLY, APPLY, APPLY, APPLY
        int[] kinds = {3, 3, 1, 1, 3, 1, 1, 1, 1};
        for (int i = 0; i < kinds.length && i < free.length; i++) {
            SHEET.due("node(" + free[i] + ", 0)", y.node(free[i], 0), kinds[i]);
            SHEET.due("node(" + free[i] + ", 3)", y.node(free[i], 3), 1);
        }
        NeedSteps z = Sheet.program("main=" + "(" + NODES_199 + ")(" + NODES_199 + ");");
        z.step(1);
        SHEET.due("node(399, 0)", z.node(399, 0), 1);
        SHEET.due("top(0)", z.top(0), 399);
        SHEET.due("node(400, 0)", z.node(400, 0), NeedSteps.BAD);
    }

    private static void numbersWrapAround() {
        SHEET.sentence("Terms", "Each is a NUMBER (32 bits); APPLY of a node to a node; a FUNCTION (a DEFINITION); a PRIMITIVE; a PAIR of two nodes; NIL; or a POINTER to a node.");
        String least = "(mul 536870912 4)";
        String most = "(sub(mul 536870912 4)1)";
        SHEET.number("main=" + least + ";", Integer.MIN_VALUE);
        SHEET.number("main=" + most + ";", Integer.MAX_VALUE);
        SHEET.number("main=add 1" + most + ";", Integer.MIN_VALUE);
        SHEET.number("main=add" + most + most + ";", -2);
        SHEET.number("main=add" + least + least + ";", 0);
        SHEET.number("main=sub" + least + "1;", Integer.MAX_VALUE);
        SHEET.number("main=sub 0" + least + ";", Integer.MIN_VALUE);
        SHEET.number("main=sub" + most + least + ";", -1);
        SHEET.number("main=mul 65536 65536;", 0);
        SHEET.number("main=mul 999999999 999999999;", 999999999 * 999999999);
        SHEET.number("main=mul" + least + "(sub 0 1);", Integer.MIN_VALUE);
        SHEET.number("main=mul" + most + most + ";", 1);
        SHEET.number("main=quo" + least + "(sub 0 1);", Integer.MIN_VALUE);
        SHEET.number("main=quo" + most + "(sub 0 1);", -Integer.MAX_VALUE);
        SHEET.number("main=quo" + least + "2;", -1073741824);
        SHEET.number("main=less" + least + most + ";", 1);
        SHEET.number("main=less" + most + least + ";", 0);
        SHEET.number("main=same" + least + "(sub 0" + least + ");", 1);
        SHEET.number("main=if" + least + "1 2;", 1);
        SHEET.number("main=if(mul 65536 65536)1 2;", 2);
    }

    private static void atFirst() {
        SHEET.sentence("Terms", "At first there is one node for each DEFINITION, in their row: a FUNCTION; the STACK has that of main, the DUMP is empty.");
        for (int count = 1; count <= 20; count++) {
            for (int main = 0; main < count; main += main < count - 2 ? count - 2 : 1) {
                atFirst(count, main);
            }
        }
    }

    private static void atFirst(int count, int main) {
        StringBuilder text = new StringBuilder();
        for (int d = 0; d < count; d++) {
            text.append(d == main ? "main" : "d" + d).append("=add 1 2;");
        }
        NeedSteps x = Sheet.program(text.toString());
        for (int d = 0; d < count; d++) {
            node(x, d, 2, d, -3);
        }
        SHEET.due("node(" + count + ", 0)", x.node(count, 0), NeedSteps.BAD);
        SHEET.due("count(0)", x.count(0), count);
        SHEET.due("count(2)", x.count(2), 1);
        SHEET.due("count(3)", x.count(3), 0);
        SHEET.due("top(0)", x.top(0), main);
    }

    private static void madeOfOne() {
        SHEET.sentence("Terms", "MADE from an EXPR with nodes for its NAMES: a NUMBER: a node of it; nil: one of NIL; another PRIMITIVE: a node of it;");
        for (int p = 0; p < PRIMITIVES.length; p++) {
            NeedSteps x = stepped("main=" + PRIMITIVES[p] + ";", 1);
            node(x, 1, p == 8 ? 5 : 3, p == 8 ? 0 : p, -3);
            SHEET.due("count(0)", x.count(0), 2);
        }
        NeedSteps x = stepped("main=999999999;", 1);
        node(x, 1, 0, 999999999, -3);
        // each of them is one of its own, those of the same NUMBER, too
        NeedSteps y = stepped("main=1 1 nil nil;", 1);
        SHEET.due("count(0)", y.count(0), 8);
        node(y, 2, 0, 1, -3);
        node(y, 4, 5, 0, -3);
        // its own EXPR alone: nothing of the DEFINITION ahead of it, or behind it
        for (String other : new String[] {"1", "nil", "add", "let a=3;in a", "(4)"}) {
            NeedSteps z = stepped("f=" + other + ";main=2;g=" + other + ";", 1);
            node(z, 3, 0, 2, -3);
            SHEET.due("count(0) beside " + other, z.count(0), 4);
            SHEET.due("top(0) beside " + other, z.top(0), 3);
        }
    }

    private static void madeOfNames() {
        SHEET.sentence("Terms", "a NAME: its node (nothing is made; of a DEFINITION its first one);");
        NeedSteps x = stepped("main=f;f=1;", 1);
        SHEET.due("count(5)", x.count(5), 2);
        SHEET.due("top(0)", x.top(0), 1);
        SHEET.due("profile(0, 1)", x.profile(0, 1), 0);
        NeedSteps y = stepped("main=f 7;f a=a;", 3);
        SHEET.due("count(5)", y.count(5), 4);
        SHEET.due("top(0): the PARAMETER's node", y.top(0), 2);
        // of a DEFINITION its first one, also when that has become a POINTER: 2 is f, 3 is g
        NeedSteps z = Sheet.program("main=seq f(g 1);k=1;f=5;g a=cons f f;");
        z.stopAt(3);
        z.step(99);
        SHEET.due("node(2, 0): a POINTER by now", z.node(2, 0), 6);
        z.step(4);
        SHEET.due("node(top(0), 1)", z.node(z.top(0), 1), 2);
        SHEET.due("node(top(0), 2)", z.node(z.top(0), 2), 2);
    }

    /** ATOMS from the left, then their APPLYS; what is within, whole in its turn. */
    private static void madeOfAtoms() {
        SHEET.sentence("Terms", "ATOMS: MADE from the left, then APPLY of the first to the second, of that to the third, so on (one alone: nothing more);");
        NeedSteps x = stepped("main=f(g 1)2(h);f a b c=a;g a=a;h=3;", 1);
        node(x, 4, 0, 1, -3);
        node(x, 5, 1, 2, 4);
        node(x, 6, 0, 2, -3);
        node(x, 7, 1, 1, 5);
        node(x, 8, 1, 7, 6);
        node(x, 9, 1, 8, 3);
        SHEET.due("top(0)", x.top(0), 9);
        NeedSteps alone = stepped("main=(((7)));", 1);
        SHEET.due("one alone: count(0)", alone.count(0), 2);
        NeedSteps within = stepped("main=((add)(1));", 1);
        SHEET.due("count(0)", within.count(0), 4);
        node(within, 3, 1, 1, 2);
        NeedSteps ten = stepped("main=add 1 2 3 4 5 6 7 8 9;", 1);
        SHEET.due("ten of them: count(0)", ten.count(0), 20);
        node(ten, 11, 1, 1, 2);
        node(ten, 19, 1, 18, 10);
        // the deepest, with ten ATOMS at each level
        String deep = "add 1 2 3 4 5 6 7 8(".repeat(12) + "9" + ")".repeat(12);
        NeedSteps y = stepped("main=" + deep + ";", 1);
        SHEET.due("deep: count(0)", y.count(0), 1 + 12 * (9 + 9) + 1);
        String deepest = "add 1 2 3 4 5 6 7 8(".repeat(12) + "sub 1 2 3 4 5 6 7 8 9" + ")".repeat(12);
        NeedSteps z = stepped("main=" + deepest + ";", 1);
        SHEET.due("deepest: count(0)", z.count(0), 1 + 12 * (9 + 9) + 10 + 9);
        // 1 to 108 are the ATOMS ahead of it, 109 to 118 its own, then its APPLYS
        node(z, 109, 3, 1, -3);
        node(z, 118, 0, 9, -3);
        node(z, 119, 1, 109, 110);
        node(z, 127, 1, 126, 118);
        node(z, 136, 1, 135, 127);
        node(z, 235, 1, 234, 226);
        SHEET.due("top(0)", z.top(0), 235);
    }

    /** POINTERS of a let first, in their row, then their EXPRS. */
    private static void madeOfLets() {
        SHEET.sentence("Terms", "let: a POINTER (to itself) for each BINDING, in their row, then each EXPR is MADE, in their row, its POINTER pointing to that then, then its EXPR.");
        NeedSteps x = stepped("main=let a=let c=1;d=c;in d;b=a;e=e;in let a=2;in f a b e;f x y z=x;", 1);
        node(x, 2, 6, 6, -3);
        node(x, 3, 6, 2, -3);
        node(x, 4, 6, 4, -3);
        node(x, 5, 6, 7, -3);
        node(x, 6, 6, 5, -3);
        node(x, 7, 0, 1, -3);
        node(x, 8, 6, 9, -3);
        node(x, 9, 0, 2, -3);
        node(x, 10, 1, 1, 8);
        node(x, 11, 1, 10, 3);
        node(x, 12, 1, 11, 4);
        SHEET.due("top(0)", x.top(0), 12);
        SHEET.due("count(0)", x.count(0), 13);
        NeedSteps six = stepped("main=let a=1;b=2;c=3;d=4;e=5;f=6;in f;", 1);
        for (int b = 0; b < 6; b++) {
            node(six, 1 + b, 6, 7 + b, -3);
            node(six, 7 + b, 0, 1 + b, -3);
        }
        SHEET.due("top(0)", six.top(0), 6);
        SHEET.due("count(0)", six.count(0), 13);
        // the same let again has POINTERS of its own
        SHEET.number("main=sub(f 9)(f 2);f a=let b=a;in b;", 7);
        // twelve lets of six BINDINGS each are open at once
        String lets = "let a=b;b=c;c=d;d=e;e=f;f=".repeat(12) + "7" + ";in a".repeat(12);
        NeedSteps y = stepped("main=" + lets + ";", 1);
        SHEET.due("count(0)", y.count(0), 1 + 72 + 1);
        y.step(99);
        SHEET.due("count(4): 72 POINTERS", y.count(4), 73);
        SHEET.due("the NUMBER", y.node(y.top(0), 1), 7);
    }

    private static void pointerAndApply() {
        SHEET.sentence("Terms", "A STEP looks at the top of the STACK: POINTER: the top becomes what it points to. APPLY: its first node comes onto the STACK.");
        // 1 POINTER a to 2, POINTER b, to 5; 3 of 7, 4 add, 5 APPLY
        NeedSteps x = stepped("main=let a=b;b=add 7;in a;", 1);
        SHEET.due("top(0)", x.top(0), 1);
        x.step(1);
        SHEET.due("top(0)", x.top(0), 2);
        SHEET.due("count(2)", x.count(2), 1);
        x.step(1);
        SHEET.due("top(0)", x.top(0), 5);
        x.step(1);
        SHEET.due("top(0)", x.top(0), 3);
        SHEET.due("top(1)", x.top(1), 5);
        SHEET.due("count(2)", x.count(2), 2);
        node(x, 1, 6, 2, -3);
        SHEET.number("main=let a=b;b=add 7;in a 1;", 8);
    }

    /** What f of n PARAMETERS, the second of k of which is its EXPR, is applied to: 10, 20 .. */
    private static String function(int n, int k, int things) {
        StringBuilder text = new StringBuilder("f");
        for (int p = 1; p <= n; p++) {
            text.append(" p").append(p);
        }
        text.append(k == 0 ? "=5" : "=p" + k).append(";main=f");
        for (int thing = 1; thing <= things; thing++) {
            text.append(' ').append(thing * 10);
        }
        return text.append(';').toString();
    }

    private static void functions() {
        SHEET.sentence("Terms", "FUNCTION of n PARAMETERS, n nodes at least below it: its EXPR is MADE, PARAMETER k being the second node of the APPLY k places below it; it and the n below it go; the lowest of these becomes a POINTER to what was MADE, which comes onto the STACK.");
        for (int n = 0; n <= 8; n++) {
            for (int k = n == 0 ? 0 : 1; k <= n; k++) {
                String text = function(n, k, n);
                NeedSteps x = stepped(text, n + 1);
                int lowest = x.top(n);
                SHEET.due("next() of " + text, x.next(), 2);
                SHEET.due("count(2) of " + text, x.count(2), n + 1);
                SHEET.due("step(1) of " + text, x.step(1), 1);
                SHEET.due("count(2) of " + text, x.count(2), 1);
                SHEET.due("the NUMBER of " + text, x.node(x.top(0), 1), k == 0 ? 5 : 10 * k);
                node(x, lowest, 6, x.top(0), -3);
            }
            // one more below stays there
            NeedSteps more = stepped(function(n, 0, n + 1), n + 3);
            SHEET.due("count(2) with one more", more.count(2), 2);
            SHEET.due("node(top(1), 2)", more.node(more.node(more.top(1), 2), 1), 10 * (n + 1));
        }
        NeedSteps y = stepped("main=f;f=7;", 2);
        SHEET.due("top(0)", y.top(0), 2);
        node(y, 1, 6, 2, -3);
    }

    private static void functionsOfFewer() {
        SHEET.sentence("Terms", "which comes onto the STACK. Fewer below: a VALUE.");
        for (int n = 1; n <= 8; n++) {
            for (int things = 0; things < n; things++) {
                String text = function(n, 1, things);
                NeedSteps x = Sheet.program(text);
                SHEET.due("step(99) of " + text, x.step(99), 1 + things);
                SHEET.due("state() of " + text, x.state(), 1);
                SHEET.due("count(2) of " + text, x.count(2), 1 + things);
                SHEET.due("profile(0, 0) of " + text, x.profile(0, 0), 0);
            }
        }
    }

    private static void primitivesOfFewer() {
        SHEET.sentence("Terms", "it comes onto the STACK. Fewer below: a VALUE.");
        for (int p = 0; p < PRIMITIVES.length; p++) {
            for (int things = 0; things < NEEDS[p]; things++) {
                String text = "main=" + PRIMITIVES[p] + " 1".repeat(things) + ";";
                NeedSteps x = Sheet.program(text);
                SHEET.due("step(99) of " + text, x.step(99), 1 + things);
                SHEET.due("state() of " + text, x.state(), 1);
                SHEET.due("rest() of " + text, x.rest(), 3);
                SHEET.due("count(2) of " + text, x.count(2), 1 + things);
            }
        }
    }

    private static void needsOfPrimitives() {
        SHEET.sentence("Terms", "PRIMITIVES: add sub mul quo less same if cons nil head tail empty seq (needing 2 2 2 2 2 2 3 2 0 1 1 1 2 things).");
        for (int p = 0; p < PRIMITIVES.length; p++) {
            boolean apart = p >= 9 && p <= 11;
            String things = apart ? " p" : " 1".repeat(NEEDS[p]);
            String text = "main=let p=q;in " + PRIMITIVES[p] + things;
            NeedSteps x = Sheet.program(text + ";q=cons 1 2;");
            x.step(99);
            SHEET.due("state() of " + text, x.state(), 1);
            SHEET.due("count(2) of " + text, x.count(2), 1);
            NeedSteps more = Sheet.program(text + " 9;q=cons 1 2;");
            more.step(99);
            SHEET.due("error() of one thing more, " + text, more.error(), 1);
            SHEET.due("count(2) of one thing more, " + text, more.count(2), 2);
        }
    }

    private static void pointersFollowed() {
        SHEET.sentence("Terms", "PRIMITIVE that needs n things, n nodes at least below it: thing k is the second node of the APPLY k places below it, POINTERS followed");
        SHEET.number("main=let a=b;b=c;c=9;d=e;e=2;in sub a d;", 7);
        NeedSteps x = stepped("main=let a=b;b=c;c=9;d=e;e=2;in sub a d;", 3);
        SHEET.due("next(): nothing is NEEDED", x.next(), 4);
        // the thing that is NEEDED is the one behind the POINTERS: 1 a, 2 b, 3 add, 4, 5, 6, 7 its APPLY
        NeedSteps y = stepped("main=let a=b;b=add 1 2;in sub a 1;", 4);
        SHEET.due("top(0)", y.top(0), 7);
        SHEET.due("count(3)", y.count(3), 1);
        // as many POINTERS as a text can tell
        String lets = "let a=b;b=c;c=d;d=e;e=f;f=".repeat(11) + "7" + ";in a".repeat(11);
        NeedSteps many = stepped("main=add(" + lets + ")1;", 3);
        SHEET.due("next() with 66 POINTERS", many.next(), 4);
        SHEET.number("main=add(" + lets + ")1;", 8);
        // with three things: each in its place
        SHEET.number("main=let a=0;b=2;c=3;in if a b c;", 3);
        SHEET.number("main=let a=1;b=2;c=3;in if a b c;", 2);
    }

    private static void ringsOfPointers() {
        SHEET.sentence("Terms", "(in a ring of these: ERROR 5).");
        String[] rings = {"x=x;", "x=y;y=x;", "x=y;y=z;z=x;", "x=y;y=z;z=y;", "x=y;y=y;",
            "x=a;a=b;b=c;c=d;d=e;e=x;", "x=a;a=b;b=c;c=d;d=e;e=e;"};
        for (String ring : rings) {
            SHEET.error("main=let " + ring + "in add x 1;", 3, 5);
            SHEET.error("main=let " + ring + "in add 1 x;", 3, 5);
            SHEET.error("main=let " + ring + "in if x 1 2;", 4, 5);
            SHEET.error("main=let " + ring + "in head x;", 2, 5);
            SHEET.error("main=let " + ring + "in tail x;", 2, 5);
            SHEET.error("main=let " + ring + "in empty x;", 2, 5);
            SHEET.error("main=let " + ring + "in seq x 1;", 3, 5);
        }
        for (int p = 0; p < 6; p++) {
            SHEET.error("main=let x=x;in " + PRIMITIVES[p] + " x x;", 3, 5);
        }
        // on the top a ring goes on and on: it is no thing of a PRIMITIVE
        NeedSteps top = stepped("main=let x=y;y=x;in x;", 99);
        SHEET.due("state()", top.state(), 0);
        // a thing in its turn: the first is NEEDED ahead of the second's ring
        NeedSteps turn = stepped("main=let x=x;in add(add 1 2)x;", 3);
        SHEET.due("next()", turn.next(), 3);
        SHEET.due("step(2000)", turn.step(2000), 5);
        SHEET.due("error()", turn.error(), 5);
    }

    private static void wantsOfPrimitives() {
        SHEET.sentence("Terms", "add to same want NUMBERS of their first thing, then of their second; if a NUMBER, head, tail, empty a PAIR or NIL of their first, seq any VALUE of its first; cons wants nothing.");
        for (int p = 0; p < 6; p++) {
            NeedSteps x = stepped("main=" + PRIMITIVES[p] + "(f 8)(g 2);f a=a;g a=a;", 4);
            SHEET.due("the first is NEEDED", x.node(x.top(0), 1), 1);
            // f: APPLY, MADE, the STACK comes back; then g
            x.step(4);
            SHEET.due("the second is NEEDED", x.node(x.top(0), 1), 2);
            x.step(99);
            SHEET.due("rest()", x.rest(), 0);
        }
        String bad = "(quo 1 0)";
        SHEET.number("main=if 1 2" + bad + ";", 2);
        SHEET.number("main=if 0" + bad + "3;", 3);
        SHEET.number("main=seq 1 2;", 2);
        String[] fine = {"nil", "(cons 1 2)", "7", "add", "(add 1)", "f", "(f 1)", "(cons" + bad + bad + ")"};
        for (String value : fine) {
            SHEET.number("main=seq " + value + " 5;f a b=quo 1 0;", 5);
        }
        for (String value : new String[] {"nil", "(cons 1 2)"}) {
            SHEET.number("main=empty " + value + ";", value.equals("nil") ? 1 : 0);
        }
        NeedSteps cons = Sheet.program("main=let x=x;in cons x" + bad + ";");
        cons.step(99);
        SHEET.due("rest(): cons wants nothing", cons.rest(), 1);
        SHEET.number("main=let x=x;in if 1 2 x;", 2);
        SHEET.number("main=let x=x;in if 0 x 3;", 3);
    }

    private static void firstThingIsNeeded() {
        SHEET.sentence("Terms", "The first thing wanted that is no VALUE is NEEDED: the STACK goes onto the DUMP as it is, a new one has that thing alone;");
        // 1 sub; 2 add, 3, 4, 5, 6; 7 mul, 8, 9, 10, 11; 12, 13
        NeedSteps x = stepped("main=sub(add 1 2)(mul 3 4);", 3);
        SHEET.due("next()", x.next(), 3);
        x.step(1);
        SHEET.due("count(2)", x.count(2), 1);
        SHEET.due("count(3)", x.count(3), 1);
        SHEET.due("top(0): the first thing", x.top(0), 6);
        SHEET.due("why(0): sub", x.why(0), 1);
        x.step(4);
        SHEET.due("count(2): as it was", x.count(2), 3);
        SHEET.due("count(3)", x.count(3), 0);
        SHEET.due("top(0)", x.top(0), 1);
        SHEET.due("top(1)", x.top(1), 12);
        SHEET.due("top(2)", x.top(2), 13);
        SHEET.due("next()", x.next(), 3);
        x.step(1);
        SHEET.due("top(0): the second thing", x.top(0), 11);
        // the second only, when the first is a VALUE
        NeedSteps second = stepped("main=sub 9(add 1 2);", 4);
        SHEET.due("node(top(0), 0)", second.node(second.top(0), 0), 1);
        // a FUNCTION of no PARAMETERS is NEEDED, too
        NeedSteps caf = stepped("main=add c 1;c=4;", 4);
        SHEET.due("top(0)", caf.top(0), 1);
        SHEET.due("next()", caf.next(), 2);
    }

    private static void needsItself() {
        SHEET.sentence("Terms", "but if a STACK (the one at hand, too) has it as its lowest already: ERROR 5.");
        SHEET.error("main=let x=add x 1;in x;", 4, 5);
        SHEET.error("main=x;x=add x 1;", 4, 5);
        SHEET.error("main=let x=add 1 x;in x;", 4, 5);
        SHEET.error("main=let x=head x;in x;", 3, 5);
        SHEET.error("main=let x=if x 1 2;in x;", 5, 5);
        SHEET.error("main=let x=seq x 1;in x;", 4, 5);
        SHEET.error("main=add main 1;", 3, 5);
        NeedSteps hand = Sheet.program("main=x;x=add x 1;");
        hand.step(99);
        SHEET.due("count(3): the STACK at hand has it", hand.count(3), 0);
        NeedSteps latest = SHEET.error("main=let x=add y 1;y=add x 1;in x;", 7, 5);
        SHEET.due("count(3): the DUMP's only one has it", latest.count(3), 1);
        NeedSteps first = SHEET.error("main=let x=add y 1;y=add z 1;z=add w 1;w=add x 1;in x;", 13, 5);
        SHEET.due("count(3): the DUMP's first has it", first.count(3), 3);
        NeedSteps middle = SHEET.error("main=let x=add y 1;y=add z 1;z=add w 1;w=add y 1;in x;", 13, 5);
        SHEET.due("count(3): one between has it", middle.count(3), 3);
        NeedSteps last = SHEET.error("main=let x=add y 1;y=add z 1;z=add w 1;w=add z 1;in x;", 13, 5);
        SHEET.due("count(3): the DUMP's latest has it", last.count(3), 3);
        // not as its lowest: 3 is above, on the STACK, and is worked out
        NeedSteps above = Sheet.program("main=let x=add(y 1)1;y=add(seq y 2);in x;");
        above.step(99);
        SHEET.due("rest()", above.rest(), 0);
    }

    private static void anotherSort() {
        SHEET.sentence("Terms", "One that is a VALUE of another sort, when it is its turn: ERROR 2.");
        String[] none = {"nil", "add", "(add 1)", "f", "(f 1)", "p"};
        for (int p = 0; p < 6; p++) {
            for (String other : none) {
                String rest = ";f a b=1;";
                error("main=let p=q;q=nil;in " + PRIMITIVES[p] + " " + other + " 1" + rest, 3);
                error("main=let p=q;q=nil;in " + PRIMITIVES[p] + " 1 " + other + rest, 3);
                // its turn comes ahead of the second's need
                error("main=let p=q;q=nil;in " + PRIMITIVES[p] + " " + other + "(add 1 2)" + rest, 3);
            }
        }
        for (String other : none) {
            error("main=let p=q;q=nil;in if " + other + " 1 2;f a b=1;", 4);
        }
        for (String primitive : new String[] {"head", "tail", "empty"}) {
            for (String other : new String[] {"1", "add", "(add 1)", "f", "(f 1)", "0"}) {
                error("main=" + primitive + " " + other + ";f a b=1;", 2);
            }
        }
        // the first is worked out ahead of the second's turn
        SHEET.error("main=add(add 1 2)nil;", 8, 2);
        SHEET.error("main=quo nil 0;", 3, 2);
        SHEET.error("main=quo 1 nil;", 3, 2);
        SHEET.error("main=less(cons 1 2)1;", 8, 2);
        SHEET.error("main=let x=x;in add nil x;", 3, 2);
        SHEET.error("main=add nil(quo 1 0);", 3, 2);
        SHEET.error("main=add(quo 1 0)nil;", 6, 3);
    }

    private static void error(String text, int steps) {
        SHEET.error(text, steps, 2);
    }

    private static void noResult() {
        SHEET.sentence("Terms", "Then quo by 0: ERROR 3; head, tail of NIL: ERROR 4.");
        SHEET.error("main=quo 1 0;", 3, 3);
        SHEET.error("main=quo 0 0;", 3, 3);
        SHEET.error("main=quo 0(sub 1 1);", 8, 3);
        SHEET.error("main=quo(add 1 2)0;", 8, 3);
        SHEET.error("main=quo(mul 536870912 4)(mul 65536 65536);", 13, 3);
        SHEET.number("main=quo 0 1;", 0);
        SHEET.number("main=quo 1(sub 0 1);", -1);
        SHEET.number("main=mul 1 0;", 0);
        SHEET.error("main=head nil;", 2, 4);
        SHEET.error("main=tail nil;", 2, 4);
        SHEET.error("main=let n=m;m=nil;in head n;", 2, 4);
        SHEET.error("main=head(tail(cons 1 nil));", 12, 4);
        SHEET.number("main=empty nil;", 1);
    }

    private static void results() {
        SHEET.sentence("Terms", "Else it and the n below it go, the lowest of these becomes a NUMBER (quo cut toward 0; less, same, empty: 1, 0), a PAIR of both second nodes (cons), or a POINTER: to the second thing's node, if the first one of if is not 0, else to the third's; to the head's, the tail's node; to the second thing's (seq)");
        SHEET.number("main=add 2 3;", 5);
        SHEET.number("main=sub 2 3;", -1);
        SHEET.number("main=mul 12 12;", 144);
        SHEET.number("main=quo 7 2;", 3);
        SHEET.number("main=quo(sub 0 7)2;", -3);
        SHEET.number("main=quo 7(sub 0 2);", -3);
        SHEET.number("main=quo(sub 0 7)(sub 0 2);", 3);
        SHEET.number("main=quo 1 2;", 0);
        SHEET.number("main=quo(sub 0 1)2;", 0);
        SHEET.number("main=quo 6 3;", 2);
        SHEET.number("main=quo 7 1;", 7);
        SHEET.number("main=quo 7(sub 0 1);", -7);
        SHEET.number("main=quo(sub 0 7)1;", -7);
        SHEET.number("main=quo 7 7;", 1);
        SHEET.number("main=quo 0 7;", 0);
        SHEET.number("main=less 1 2;", 1);
        SHEET.number("main=less 2 2;", 0);
        SHEET.number("main=less 3 2;", 0);
        SHEET.number("main=less(sub 0 1)0;", 1);
        SHEET.number("main=same 2 2;", 1);
        SHEET.number("main=same 2 3;", 0);
        SHEET.number("main=same 3 2;", 0);
        SHEET.number("main=if 1 2 3;", 2);
        SHEET.number("main=if 2 2 3;", 2);
        SHEET.number("main=if(sub 0 1)2 3;", 2);
        SHEET.number("main=if 0 2 3;", 3);
        SHEET.number("main=head(cons 4 5);", 4);
        SHEET.number("main=tail(cons 4 5);", 5);
        SHEET.number("main=empty nil;", 1);
        SHEET.number("main=empty(cons 1 2);", 0);
        // 1 cons, 2 add, 3, 4, 5, 6 its APPLYS, 7 NIL, 8 and 9 APPLYS
        NeedSteps x = stepped("main=cons(add 1 2)nil;", 4);
        SHEET.due("top(0)", x.top(0), 9);
        SHEET.due("count(2)", x.count(2), 1);
        node(x, 9, 4, 6, 7);
        node(x, 8, 1, 1, 6);
        node(x, 6, 1, 5, 4);
        // one more below stays, and the lowest of those that go is not the lowest of all
        NeedSteps y = stepped("main=if 1 add 2 7 8;", 7);
        SHEET.due("count(2)", y.count(2), 3);
        SHEET.due("node(top(0), 0): a POINTER", y.node(y.top(0), 0), 6);
        SHEET.number("main=if 1 add 2 7 8;", 15);
        SHEET.number("main=seq 1 add 7 8;", 15);
        SHEET.number("main=head(cons add 1)7 8;", 15);
    }

    /** 1 is the POINTER a, 2 its NUMBER: a PRIMITIVE's POINTER leads to 1, not to 2. */
    private static void notFollowed() {
        SHEET.sentence("Terms", "(as they stand in the APPLY, PAIR: not followed);");
        String[] texts = {"if 1 a 2;", "if 0 2 a;", "seq 1 a;", "head(cons a 2);", "tail(cons 2 a);"};
        int[] lowest = {8, 8, 6, 8, 8};
        int[] steps = {5, 5, 4, 8, 8};
        for (int i = 0; i < texts.length; i++) {
            NeedSteps x = stepped("main=let a=7;in " + texts[i], steps[i]);
            SHEET.due("top(0) of " + texts[i], x.top(0), lowest[i]);
            node(x, lowest[i], 6, 1, -3);
            SHEET.due("next() of " + texts[i], x.next(), 0);
            SHEET.due("step(9) of " + texts[i], x.step(9), 2);
            SHEET.due("top(0) of " + texts[i], x.top(0), 2);
        }
        NeedSteps pair = stepped("main=let a=7;in cons a a;", 4);
        node(pair, 5, 4, 1, 1);
    }

    private static void values() {
        SHEET.sentence("Terms", "VALUES: NUMBERS, PAIRS, NIL; FUNCTIONS of 1 PARAMETER and more, PRIMITIVES, and APPLYS of these (POINTERS followed) to fewer things than they want.");
        String[] values = {"7", "nil", "add", "cons", "head", "if", "(add 1)", "(if 1)", "(if 1 2)", "(cons 1)",
            "one", "two", "(two 1)", "p", "q", "(q 1)", "(r 2)"};
        for (String value : values) {
            String text = "main=let p=add 1;q=if;r=q 1;in seq " + value + " 5;one a=quo 1 0;two a b=quo 1 0;";
            NeedSteps x = stepped(text, 3);
            SHEET.due("next(): done at once, " + text, x.next(), 4);
            SHEET.number(text, 5);
        }
        String[] others = {"c", "(add 1 2)", "(one 1)", "(two 1 2)", "(head nil)", "(if 1 2 3)", "(if 1 2 3 4)",
            "(cons 1 2)", "(p 1)", "(r 2 3)", "(7 1)", "(nil 1)", "(c 1)", "(one 1 2)"};
        for (String other : others) {
            String text = "main=let p=add 1;q=if;r=q 1;in seq " + other + " 5;one a=a;two a b=a;c=add;";
            NeedSteps x = stepped(text, 3);
            SHEET.due("next(): it is NEEDED, " + text, x.next(), 3);
        }
        // a PAIR on its own, once it is worked out
        NeedSteps pair = Sheet.program("main=let p=cons 1 2;in seq p(seq p 5);");
        SHEET.due("step(99)", pair.step(99), 14);
        SHEET.due("rest()", pair.rest(), 0);
    }

    /** As many things as a DEFINITION can have PARAMETERS, one fewer, one more. */
    private static void valuesByOne() {
        SHEET.sentence("Terms", "and APPLYS of these (POINTERS followed) to fewer things than they want.");
        for (int n = 1; n <= 8; n++) {
            String definition = function(n, 1, 0).replace("main=f;", "");
            for (int things = 0; things <= 9; things++) {
                String thing = things == 0 ? "f" : "(f" + " 1".repeat(things) + ")";
                NeedSteps x = stepped(definition + "main=seq " + thing + " 5;", 3);
                SHEET.due("next() of " + thing + " with " + n + " PARAMETERS", x.next(), things < n ? 4 : 3);
            }
        }
        // POINTERS between the APPLYS
        String text = "f a b c d e f g h=1;main=let a=f 1;b=a 2;c=b 3;d=c 4;e=d 5;x=e 6;in seq ";
        NeedSteps seven = stepped(text + "(x 7)5;", 3);
        SHEET.due("next() of seven things", seven.next(), 4);
        NeedSteps eight = stepped(text + "(x 7 8)5;", 3);
        SHEET.due("next() of eight things", eight.next(), 3);
        // a ring of POINTERS that is applied is no VALUE
        NeedSteps ring = stepped("main=let x=x;in seq(x 1)5;", 3);
        SHEET.due("next()", ring.next(), 3);
    }

    private static void stackComesBack() {
        SHEET.sentence("Terms", "A VALUE on top, nothing below but what such a one is applied to: the DUMP's last STACK comes back as it was; without a DUMP it is AT REST.");
        // c: add 1 2's STACK has one place; g's VALUE has what it is applied to below it
        NeedSteps x = stepped("main=seq(g 1)(add 3 4);g a=add a;", 4);
        SHEET.due("count(3)", x.count(3), 1);
        // APPLY, MADE, APPLY: add is on top, its APPLY below it
        x.step(3);
        SHEET.due("count(2)", x.count(2), 2);
        SHEET.due("next(): a STACK comes back", x.next(), 5);
        x.step(1);
        SHEET.due("count(2)", x.count(2), 3);
        SHEET.due("count(3)", x.count(3), 0);
        SHEET.due("top(0): seq", x.node(x.top(0), 1), 12);
        String[] rests = {"main=1;", "main=cons 1 2;", "main=nil;", "main=add 1;", "main=f;f a=a;", "main=f 1;f a b=a;"};
        for (String text : rests) {
            NeedSteps rest = Sheet.program(text);
            rest.step(99);
            SHEET.due("state() of " + text, rest.state(), 1);
            SHEET.due("next() of " + text, rest.next(), 6);
        }
        // the last one comes back first
        NeedSteps y = Sheet.program("main=add(mul(sub 9 1)2)3;");
        y.step(9);
        SHEET.due("count(3)", y.count(3), 2);
        y.step(2);
        SHEET.due("count(3)", y.count(3), 1);
        SHEET.due("top(0): mul", y.node(y.top(0), 1), 2);
        y.step(2);
        SHEET.due("count(3)", y.count(3), 0);
        SHEET.due("top(0): add", y.node(y.top(0), 1), 0);
    }

    private static void moreBelow() {
        SHEET.sentence("Terms", "A NUMBER, PAIR, NIL with more below: ERROR 1.");
        SHEET.error("main=1 2;", 2, 1);
        SHEET.error("main=1 2 3 4 5 6 7 8 9 0;", 10, 1);
        SHEET.error("main=nil 1;", 2, 1);
        SHEET.error("main=cons 1 2 3;", 5, 1);
        SHEET.error("main=add 1 2 3;", 5, 1);
        SHEET.error("main=let p=q;q=5;in p 1;", 4, 1);
        SHEET.error("main=f 1 2;f a=a;", 4, 1);
        NeedSteps x = SHEET.error("main=add(1 2)3;", 5, 1);
        SHEET.due("why(0): also with a DUMP", x.why(0), 1);
    }

    private static void nothingChanges() {
        SHEET.sentence("Terms", "With an ERROR, AT REST nothing changes.");
        String[] texts = {"main=1 2;", "main=add nil 1;", "main=quo 1 0;", "main=head nil;",
            "main=let x=add x 1;in x;", "main=let x=x;in add x 1;", "main=add(1 2)3;", "main=5;", "main=add 1;",
            "main=cons 1 2;", "main=nil;"};
        for (String text : texts) {
            NeedSteps x = Sheet.program(text);
            x.step(99);
            String before = Picture.of(x);
            SHEET.due("step(1) of " + text, x.step(1), 0);
            SHEET.due("step(2000) of " + text, x.step(2000), 0);
            SHEET.same("what there is of " + text, Picture.of(x), before);
        }
    }

    private static void fullOfSteps() {
        SHEET.sentence("Terms", "A STEP is not done, FULL, when 5000 were done,");
        NeedSteps x = Sheet.program("main=main;");
        SHEET.due("step(2000)", x.step(2000), 2000);
        SHEET.due("step(2000)", x.step(2000), 2000);
        SHEET.due("step(999)", x.step(999), 999);
        SHEET.due("state() behind 4999", x.state(), 0);
        SHEET.due("step(1): the 5000th", x.step(1), 1);
        SHEET.due("state(): none tried beyond", x.state(), 0);
        String before = Picture.withoutLatest(x);
        SHEET.due("step(1): the 5001st", x.step(1), 0);
        SHEET.due("state()", x.state(), 3);
        SHEET.due("error()", x.error(), 0);
        SHEET.due("count(4)", x.count(4), 5000);
        SHEET.same("what there is", Picture.withoutLatest(x), before);
        SHEET.due("back(1)", x.back(1), 4999);
        SHEET.due("step(9): one can be done again", x.step(9), 1);
        SHEET.due("state()", x.state(), 3);
        NeedSteps y = Sheet.program("main=main;");
        SHEET.due("step(2000)", y.step(2000) + y.step(2000) + y.step(2000), 5000);
        SHEET.due("state()", y.state(), 3);
    }

    /**
     * Where there is none to be done anyway, none is FULL: next() tells so, whether FULL or not. The
     * document does not say it of state(); this is how it is read here.
     */
    private static void noneToDoBehind5000() {
        SHEET.sentence("Terms", "A STEP is not done, FULL, when 5000 were done,");
        NeedSteps rest = steps5000(35, "add(g 7)(add(g 5)(g 1))");
        SHEET.due("next()", rest.next(), 6);
        SHEET.due("step(1)", rest.step(1), 0);
        SHEET.due("state(): AT REST", rest.state(), 1);
        SHEET.due("rest()", rest.rest(), 0);
        SHEET.due("the NUMBER", rest.node(rest.top(0), 1), 162);
        NeedSteps error = steps5000(31, "quo(g 7)(sub(add(g 5)(g 1))34)");
        SHEET.due("next()", error.next(), 7);
        SHEET.due("step(1)", error.step(1), 0);
        SHEET.due("state(): an ERROR", error.state(), 2);
        SHEET.due("error()", error.error(), 3);
        // a POINTER more, and there is one to be done
        NeedSteps full = steps5000(36, "add(g 7)(add(g 5)(g 1))");
        SHEET.due("next()", full.next(), 4);
        SHEET.due("step(1)", full.step(1), 0);
        SHEET.due("state(): FULL", full.state(), 3);
    }

    private static NeedSteps steps5000(int pointers, String expr) {
        NeedSteps x = Sheet.program("main=" + pointersTo(expr, pointers) + ";g n=if n(add(g(sub n 1))(g(sub n 1)))1;");
        for (int i = 0; i < 100 && x.count(4) < 5000; i++) {
            x.step(Math.min(2000, 5000 - x.count(4)));
            x.sweep();
        }
        SHEET.due("count(4)", x.count(4), 5000);
        return x;
    }

    /** An EXPR that comes to the other by so many POINTERS, six a let. */
    private static String pointersTo(String expr, int pointers) {
        if (pointers == 0) {
            return expr;
        }
        int here = Math.min(6, pointers);
        String names = "let a=b;b=c;c=d;d=e;e=f;f=".substring(0, 2 + 4 * here);
        return names + pointersTo(expr, pointers - here) + ";in a";
    }

    private static void fullOfPlaces() {
        SHEET.sentence("Terms", "or the STACKS would have more than 600 places together,");
        // an APPLY whose first node leads to it again: a place more every two STEPS
        NeedSteps x = Sheet.program("main=let x=x 1;in x;");
        SHEET.due("step(1198)", x.step(1198), 1198);
        SHEET.due("count(2)", x.count(2), 599);
        SHEET.due("step(2000)", x.step(2000), 2);
        SHEET.due("state()", x.state(), 3);
        SHEET.due("count(2): just 600", x.count(2), 600);
        SHEET.due("next()", x.next(), 1);
        SHEET.due("top(599)", x.top(599), 3);
        SHEET.due("top(600)", x.top(600), NeedSteps.BAD);
        SHEET.due("node(3, 4)", x.node(3, 4), 601);
        SHEET.due("step(1) again", x.step(1), 0);
        SHEET.due("count(4)", x.count(4), 1200);
        SHEET.due("back(2)", x.back(2), 1198);
        SHEET.due("count(2)", x.count(2), 599);
        SHEET.due("back(1198)", x.back(1198), 0);
        SHEET.due("count(2)", x.count(2), 1);
        // those on the DUMP count, too: 3 there, 597 on the STACK
        NeedSteps y = Sheet.program("main=add(let x=x 1;in x)1;");
        SHEET.due("step(2000)", y.step(2000), 1196);
        SHEET.due("state()", y.state(), 3);
        SHEET.due("count(2)", y.count(2), 597);
        SHEET.due("count(3)", y.count(3), 1);
        SHEET.due("next()", y.next(), 1);
        fullOfPlacesByNeed();
    }

    /** Each head has two places, its APPLY's and its own: 300 of them are 600. */
    private static void fullOfPlacesByNeed() {
        NeedSteps x = Sheet.program("main=g head;g h=" + "h(".repeat(11) + "h(g h)" + ")".repeat(11) + ";");
        x.step(2000);
        SHEET.due("state()", x.state(), 3);
        SHEET.due("next(): a thing is NEEDED", x.next(), 3);
        SHEET.due("count(2)", x.count(2), 2);
        SHEET.due("count(3)", x.count(3), 299);
        SHEET.holds("there is room for nodes", x.count(0) < 390);
        SHEET.due("node(2, 4): the one node of head, on 300 STACKS", x.node(2, 4) >= 300 ? 1 : 0, 1);
        SHEET.due("why(298)", x.why(298), 2);
        SHEET.due("why(299)", x.why(299), NeedSteps.BAD);
        String before = Picture.of(x);
        SHEET.due("step(1)", x.step(1), 0);
        SHEET.same("what there is", Picture.of(x), before);
        // with three places at the beginning it is an APPLY's first node that would be the 601st
        NeedSteps y = Sheet.program("main=add(g head)1;g h=" + "h(".repeat(11) + "h(g h)" + ")".repeat(11) + ";");
        y.step(2000);
        SHEET.due("state()", y.state(), 3);
        SHEET.due("next()", y.next(), 1);
        SHEET.due("count(2)", y.count(2), 1);
        SHEET.due("count(3)", y.count(3), 299);
    }

    private static void fullOfNodes() {
        SHEET.sentence("Terms", "or there would be more than 400 nodes (that are not free).");
        String both = "(" + NODES_199 + ")(" + NODES_199 + ")";
        NeedSteps just = Sheet.program("main=" + both + ";");
        SHEET.due("step(1): 1 and 399", just.step(1), 1);
        SHEET.due("count(0)", just.count(0), 400);
        String[] texts = {"main=" + both + "main;", "main=" + both + ";f=1;", "main=let a=main;in " + both + ";",
            "main=" + both + "1;"};
        for (String text : texts) {
            NeedSteps x = Sheet.program(text);
            String before = Picture.withoutLatest(x);
            SHEET.due("step(1): more than 400", x.step(1), 0);
            SHEET.due("state()", x.state(), 3);
            SHEET.due("next()", x.next(), 2);
            SHEET.same("what there is", Picture.withoutLatest(x), before);
        }
        // each loop makes one node, and the POINTERS keep them all
        NeedSteps x = Sheet.program("main=loop 0;loop n=loop n;");
        SHEET.due("step(2000)", x.step(2000), 794);
        SHEET.due("state()", x.state(), 3);
        SHEET.due("count(0): just 400", x.count(0), 400);
        SHEET.due("next()", x.next(), 2);
        SHEET.due("sweep()", x.sweep(), 0);
        SHEET.due("step(1)", x.step(1), 0);
        SHEET.due("way(398, -1)", x.way(398, -1), 397);
        SHEET.due("profile(1, 0)", x.profile(1, 0), 396);
        // with 400 nodes a FUNCTION that makes none is MADE
        String nodes197 = NODES_199.substring(0, 22 * 9) + "(1(1)1(1)1(1)1(1)1)";
        NeedSteps on = Sheet.program("main=f(" + NODES_199 + ")(" + nodes197 + ");f a b=b;");
        SHEET.due("step(1)", on.step(1), 1);
        SHEET.due("count(0)", on.count(0), 400);
        SHEET.due("step(3)", on.step(3), 3);
        SHEET.due("profile(1, 0)", on.profile(1, 0), 1);
        freeOnesDoNotCount();
    }

    private static void freeOnesDoNotCount() {
        SHEET.sentence("Terms", "or there would be more than 400 nodes (that are not free).");
        NeedSteps x = Sheet.program("main=let f=fib 7;in add f f;fib n=if(less n 2)n(add(fib(sub n 1))(fib(sub n 2)));");
        x.step(2000);
        SHEET.due("state()", x.state(), 3);
        SHEET.due("next()", x.next(), 2);
        for (int i = 0; i < 20 && x.state() != 1; i++) {
            x.sweep();
            x.step(2000);
        }
        SHEET.due("rest()", x.rest(), 0);
        SHEET.due("the NUMBER", x.node(x.top(0), 1), 26);
        SHEET.holds("more than 400 were MADE", x.count(5) > 400);
        SHEET.holds("at most 400 at once", x.count(6) <= 400);
    }
}
