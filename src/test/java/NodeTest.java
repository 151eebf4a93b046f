/** Promises 14 to 20: node, top, why, way, profile, rest, share. */
public final class NodeTest {
    private static final Sheet SHEET = new Sheet("node");

    public static void main(String[] args) {
        kinds();
        orderOfMaking();
        letsInsideLets();
        everyPrimitive();
        notFollowed();
        placesThatHaveIt();
        topsAndWhys();
        ways();
        profiles();
        rests();
        shares();
        SHEET.end();
    }

    private static void node(NeedSteps x, int node, int kind, int first, int second) {
        SHEET.due("node(" + node + ", 0)", x.node(node, 0), kind);
        SHEET.due("node(" + node + ", 1)", x.node(node, 1), first);
        SHEET.due("node(" + node + ", 2)", x.node(node, 2), second);
    }

    private static void kinds() {
        NeedSteps x = Sheet.program("g a=a;main=let p=cons 5 nil;in seq p g;");
        node(x, 0, 2, 0, -3);
        node(x, 1, 2, 1, -3);
        SHEET.due("node(0, 3): the beginning", x.node(0, 3), -3);
        SHEET.due("node(2, 0)", x.node(2, 0), NeedSteps.BAD);
        x.step(1);
        node(x, 1, 6, 10, -3);
        node(x, 2, 6, 7, -3);
        node(x, 3, 3, 7, -3);
        node(x, 4, 0, 5, -3);
        node(x, 5, 5, 0, -3);
        node(x, 6, 1, 3, 4);
        node(x, 7, 1, 6, 5);
        node(x, 8, 3, 12, -3);
        node(x, 9, 1, 8, 2);
        node(x, 10, 1, 9, 0);
        SHEET.due("node(11, 0)", x.node(11, 0), NeedSteps.BAD);
        SHEET.due("node(5, 3)", x.node(5, 3), 1);
        SHEET.due("node(1, 3): as old as before", x.node(1, 3), -3);
        wrongInputs(x);
    }

    private static void wrongInputs(NeedSteps x) {
        SHEET.due("node(-1, 0)", x.node(-1, 0), NeedSteps.BAD);
        SHEET.due("node(400, 0)", x.node(400, 0), NeedSteps.BAD);
        SHEET.due("node(least, 0)", x.node(Integer.MIN_VALUE, 0), NeedSteps.BAD);
        SHEET.due("node(most, 4)", x.node(Integer.MAX_VALUE, 4), NeedSteps.BAD);
        SHEET.due("node(0, -1)", x.node(0, -1), NeedSteps.BAD);
        SHEET.due("node(0, 6)", x.node(0, 6), NeedSteps.BAD);
        SHEET.due("node(399, 5): free", x.node(399, 5), NeedSteps.BAD);
    }

    /** ATOMS from the left, then their APPLYS; what is within, whole in its turn. */
    private static void orderOfMaking() {
        NeedSteps x = Sheet.program("main=f(g 1)2(h);f a b c=a;g a=a;h=3;");
        x.step(1);
        node(x, 4, 0, 1, -3);
        node(x, 5, 1, 2, 4);
        node(x, 6, 0, 2, -3);
        node(x, 7, 1, 1, 5);
        node(x, 8, 1, 7, 6);
        node(x, 9, 1, 8, 3);
        SHEET.due("top(0)", x.top(0), 9);
        x.step(3);
        SHEET.due("next()", x.next(), 2);
        x.step(1);
        SHEET.due("top(0): PARAMETER a", x.top(0), 5);
        node(x, 9, 6, 5, -3);
        SHEET.due("count(2)", x.count(2), 1);
        NeedSteps y = Sheet.program("main=(((7)));");
        y.step(1);
        SHEET.due("one alone: nothing more", y.count(0), 2);
    }

    /** POINTERS of a let first, in their row, then their EXPRS. */
    private static void letsInsideLets() {
        NeedSteps x = Sheet.program("main=let a=let c=1;d=c;in d;b=a;e=e;in let a=2;in f a b e;f x y z=x;");
        x.step(1);
        node(x, 2, 6, 6, -3);
        node(x, 3, 6, 2, -3);
        node(x, 4, 6, 4, -3);
        node(x, 5, 6, 7, -3);
        node(x, 6, 6, 5, -3);
        node(x, 7, 0, 1, -3);
        node(x, 8, 6, 9, -3);
        node(x, 9, 0, 2, -3);
        node(x, 10, 1, 1, 8);
        node(x, 11, 1, 10, 3);
        node(x, 12, 1, 11, 4);
        SHEET.due("top(0)", x.top(0), 12);
        SHEET.due("count(0)", x.count(0), 13);
    }

    private static void everyPrimitive() {
        String[] words = {"add", "sub", "mul", "quo", "less", "same", "if", "cons", "nil", "head",
            "tail", "empty", "seq"};
        for (int p = 0; p < words.length; p++) {
            NeedSteps x = Sheet.program("main=" + words[p] + ";");
            SHEET.due("step(9)", x.step(9), 1);
            SHEET.due("node(1, 0) of " + words[p], x.node(1, 0), p == 8 ? 5 : 3);
            SHEET.due("node(1, 1) of " + words[p], x.node(1, 1), p == 8 ? 0 : p);
            SHEET.due("rest() of " + words[p], x.rest(), p == 8 ? 2 : 3);
        }
    }

    /** 1 is the POINTER a, 2 its NUMBER: a PRIMITIVE's POINTER leads to 1, not to 2. */
    private static void notFollowed() {
        String[] texts = {"if 1 a 2;", "if 0 2 a;", "seq 1 a;", "head(cons a 2);", "tail(cons 2 a);"};
        int[] lowest = {8, 8, 6, 8, 8};
        int[] steps = {5, 5, 4, 8, 8};
        for (int i = 0; i < texts.length; i++) {
            NeedSteps x = Sheet.program("main=let a=7;in " + texts[i]);
            x.step(steps[i]);
            SHEET.due("top(0) of " + texts[i], x.top(0), lowest[i]);
            node(x, lowest[i], 6, 1, -3);
            SHEET.due("next() of " + texts[i], x.next(), 0);
            SHEET.due("step(9) of " + texts[i], x.step(9), 2);
            SHEET.due("top(0) of " + texts[i], x.top(0), 2);
        }
    }

    private static void placesThatHaveIt() {
        // 1 POINTER a, 2 of 7, 3 cons, 4 and 5 APPLYS
        NeedSteps x = Sheet.program("main=let a=7;in cons a a;");
        x.step(1);
        SHEET.due("node(1, 4): two APPLYS", x.node(1, 4), 2);
        SHEET.due("node(2, 4): a POINTER", x.node(2, 4), 1);
        SHEET.due("node(5, 4): a POINTER and the STACK", x.node(5, 4), 2);
        SHEET.due("node(0, 4): nothing has it", x.node(0, 4), 0);
        SHEET.due("node(0, 5): but it is kept", x.node(0, 5), 1);
        x.step(3);
        SHEET.due("node(5, 0): a PAIR", x.node(5, 0), 4);
        SHEET.due("node(1, 4): twice in a PAIR, not in what is not kept", x.node(1, 4), 2);
        SHEET.due("node(3, 4)", x.node(3, 4), 0);
        SHEET.due("node(3, 5)", x.node(3, 5), 0);
        SHEET.due("node(4, 5)", x.node(4, 5), 0);
        // places of STACKS on the DUMP count, too
        NeedSteps y = Sheet.program("main=add(add 1 2)3;");
        y.step(4);
        SHEET.due("node(8, 4): an APPLY and a STACK", y.node(8, 4), 2);
        SHEET.due("node(6, 4): an APPLY and the STACK", y.node(6, 4), 2);
        SHEET.due("node(1, 4): an APPLY and a STACK", y.node(1, 4), 2);
        NeedSteps z = Sheet.program("main=let e=e;in e;");
        z.step(1);
        SHEET.due("node(1, 4): itself, main's and the STACK", z.node(1, 4), 3);
    }

    private static void topsAndWhys() {
        NeedSteps x = Sheet.program("main=add(mul(sub 9 1)2)3;");
        x.step(2000);
        SHEET.due("the NUMBER", x.node(x.top(0), 1), 19);
        x.back(2000 > x.count(4) ? x.count(4) : 0);
        x.step(9);
        SHEET.due("count(3)", x.count(3), 2);
        SHEET.due("node(why(0), 1): mul", x.node(x.why(0), 1), 2);
        SHEET.due("node(why(1), 1): add", x.node(x.why(1), 1), 0);
        SHEET.due("why(2)", x.why(2), NeedSteps.BAD);
        SHEET.due("why(-1)", x.why(-1), NeedSteps.BAD);
        SHEET.due("why(most)", x.why(Integer.MAX_VALUE), NeedSteps.BAD);
        SHEET.due("why(least)", x.why(Integer.MIN_VALUE), NeedSteps.BAD);
        SHEET.due("count(2)", x.count(2), 3);
        SHEET.due("node(top(0), 1): sub", x.node(x.top(0), 1), 1);
        SHEET.due("top(1): what top(2) applies", x.top(1), x.node(x.top(2), 1));
        SHEET.due("top(3): not the DUMP's", x.top(3), NeedSteps.BAD);
        SHEET.due("top(-1)", x.top(-1), NeedSteps.BAD);
        SHEET.due("top(most)", x.top(Integer.MAX_VALUE), NeedSteps.BAD);
        SHEET.due("top(least)", x.top(Integer.MIN_VALUE), NeedSteps.BAD);
    }

    private static void way(NeedSteps x, int node, int... want) {
        SHEET.due("way(" + node + ", -1)", x.way(node, -1), want.length);
        for (int k = 0; k < want.length; k++) {
            SHEET.due("way(" + node + ", " + k + ")", x.way(node, k), want[k]);
        }
        SHEET.due("way(" + node + ", beyond)", x.way(node, want.length), NeedSteps.BAD);
    }

    private static void ways() {
        // 1 f; 2 POINTER a, 3 POINTER b; 4 of 7; 5 cons, 6 of 1, 7 and 8 APPLYS (cons 1 a);
        // 9 f's APPLY of b, 10 of that to a
        NeedSteps x = Sheet.program("main=let a=7;b=cons 1 a;in f b a;f p q=cons q(cons p p);");
        x.step(1);
        way(x, 0, 0);
        way(x, 10, 10);
        way(x, 9, 10, 9);
        way(x, 2, 10, 2);
        way(x, 4, 10, 2, 4);
        way(x, 3, 10, 9, 3);
        way(x, 8, 10, 9, 3, 8);
        way(x, 5, 10, 9, 3, 8, 7, 5);
        // f: 11 cons, 12 cons, 13 cons p, 14 cons p p, 15 cons q, 16 of that to 14
        x.step(3);
        SHEET.due("top(0)", x.top(0), 16);
        way(x, 14, 16, 14);
        way(x, 3, 16, 14, 3);
        way(x, 2, 16, 15, 2);
        SHEET.due("way(9, -1): not kept", x.way(9, -1), NeedSteps.BAD);
        SHEET.due("way(3, -2)", x.way(3, -2), NeedSteps.BAD);
        SHEET.due("way(17, -1): no such node", x.way(17, -1), NeedSteps.BAD);
        SHEET.due("way(-1, -1)", x.way(-1, -1), NeedSteps.BAD);
        SHEET.due("way(400, -1)", x.way(400, -1), NeedSteps.BAD);
        SHEET.due("way(most, 0)", x.way(Integer.MAX_VALUE, 0), NeedSteps.BAD);
        SHEET.due("way(3, most)", x.way(3, Integer.MAX_VALUE), NeedSteps.BAD);
        SHEET.due("way(3, least)", x.way(3, Integer.MIN_VALUE), NeedSteps.BAD);
        lesserNumbersFirst();
    }

    /** Of ways that are as short, that with the lesser number where they differ first. */
    private static void lesserNumbersFirst() {
        // 1 POINTER x to 4 (2 3); 5 cons; 9 (8 x), 8 (6 7); 13 (12 11), 12 (10 x); 15 (14 13)
        NeedSteps x = Sheet.program("main=let x=cons 5;in cons(add 1 x)(add x 2);");
        x.step(4);
        SHEET.due("node(top(0), 0): a PAIR", x.node(x.top(0), 0), 4);
        way(x, 9, 15, 9);
        way(x, 13, 15, 13);
        way(x, 1, 15, 9, 1);
        way(x, 4, 15, 9, 1, 4);
        way(x, 12, 15, 13, 12);
        NeedSteps y = Sheet.program("main=let x=5;in cons(f x)(g x);f a=a;g a=a;");
        y.step(4);
        // 3 POINTER x, 4 of 5, 5 cons, 6 (f x), 7 (g x), 8, 9: both are as short
        way(y, 3, 9, 6, 3);
        // the DEFINITION's own first node begins its way
        way(y, 1, 1);
    }

    private static void profiles() {
        NeedSteps x = Sheet.program("main=add(f 1)(f 2);f a=g(g a);g a=add a 1;");
        for (int d = 0; d < 3; d++) {
            SHEET.due("profile at first", x.profile(d, 0) + x.profile(d, 1), 0);
        }
        x.step(2000);
        SHEET.due("profile(0, 0)", x.profile(0, 0), 1);
        SHEET.due("profile(0, 1)", x.profile(0, 1), 7);
        SHEET.due("profile(1, 0)", x.profile(1, 0), 2);
        SHEET.due("profile(1, 1)", x.profile(1, 1), 4);
        SHEET.due("profile(2, 0)", x.profile(2, 0), 4);
        SHEET.due("profile(2, 1)", x.profile(2, 1), 16);
        SHEET.due("count(5)", x.count(5), 3 + 7 + 4 + 16);
        SHEET.due("profile(3, 0)", x.profile(3, 0), NeedSteps.BAD);
        SHEET.due("profile(-1, 0)", x.profile(-1, 0), NeedSteps.BAD);
        SHEET.due("profile(0, 2)", x.profile(0, 2), NeedSteps.BAD);
        SHEET.due("profile(0, -1)", x.profile(0, -1), NeedSteps.BAD);
        SHEET.due("profile(most, least)", x.profile(Integer.MAX_VALUE, Integer.MIN_VALUE), NeedSteps.BAD);
        x.sweep();
        SHEET.due("profile(2, 1): swept ones were made, too", x.profile(2, 1), 16);
        // two POINTERS, NIL, cons, two APPLYS
        NeedSteps y = Sheet.program("main=f 1;f a=let b=a;c=nil;in cons b c;");
        y.step(3);
        SHEET.due("profile(1, 1) of a let", y.profile(1, 1), 6);
        SHEET.due("count(5)", y.count(5), 10);
    }

    private static void rests() {
        String[] texts = {"main=1;", "main=cons 1 2;", "main=nil;", "main=add 1;"};
        for (int rest = 0; rest < texts.length; rest++) {
            NeedSteps x = Sheet.program(texts[rest]);
            SHEET.due("rest() at first", x.rest(), NeedSteps.NO);
            x.step(2000);
            SHEET.due("rest() of " + texts[rest], x.rest(), rest);
            x.back(1);
            SHEET.due("rest() behind back()", x.rest(), NeedSteps.NO);
        }
        NeedSteps error = Sheet.program("main=1 2;");
        error.step(2000);
        SHEET.due("rest() with an ERROR", error.rest(), NeedSteps.NO);
    }

    private static void shares() {
        NeedSteps x = Sheet.program("main=add 1 2;");
        SHEET.due("share() at first", x.share(), 1000);
        x.step(2000);
        SHEET.due("share(): 2 of 6, cut", x.share(), 333);
        x.sweep();
        SHEET.due("share() swept", x.share(), 1000);
    }
}
