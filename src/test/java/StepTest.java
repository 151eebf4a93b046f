/** Promises 6 to 9: step, state, error, next, and the STEPS themselves. */
public final class StepTest {
    private static final Sheet SHEET = new Sheet("step");

    public static void main(String[] args) {
        callsOfStep();
        everyKindOfStep();
        numbers();
        lists();
        laziness();
        values();
        appliedToNothing();
        otherSorts();
        rings();
        fullOfSteps();
        fullOfPlaces();
        fullOfNodes();
        SHEET.end();
    }

    private static void callsOfStep() {
        NeedSteps x = Sheet.program("main=add 1 2;");
        SHEET.due("state() at first", x.state(), 0);
        SHEET.due("error() at first", x.error(), 0);
        for (int n : new int[] {0, -1, 2001, Integer.MIN_VALUE, Integer.MAX_VALUE}) {
            SHEET.due("step(" + n + ")", x.step(n), NeedSteps.BAD);
        }
        SHEET.due("count(4) behind BAD", x.count(4), 0);
        SHEET.due("step(3)", x.step(3), 3);
        SHEET.due("state()", x.state(), 0);
        SHEET.due("step(1)", x.step(1), 1);
        SHEET.due("state(): the STEP went on", x.state(), 0);
        SHEET.due("next(): at rest", x.next(), 6);
        SHEET.due("state(): next() is no STEP", x.state(), 0);
        SHEET.due("rest(): state 0", x.rest(), NeedSteps.NO);
        SHEET.due("step(2000)", x.step(2000), 0);
        SHEET.due("state()", x.state(), 1);
        SHEET.due("error()", x.error(), 0);
        SHEET.due("step(0)", x.step(0), NeedSteps.BAD);
        SHEET.due("state() behind BAD", x.state(), 1);
        SHEET.due("count(4)", x.count(4), 4);
        Sheet.feed(x, "main=1;");
        x.read();
        SHEET.due("state() of a new program", x.state(), 0);
        SHEET.due("count(4) of a new program", x.count(4), 0);
    }

    /** Nodes: 1 add; 2 add, 3 of 1, 4 of 2, 5 and 6 APPLYS; 7 of 3; 8 and 9 APPLYS. */
    private static void everyKindOfStep() {
        NeedSteps x = Sheet.program("main=add(add 1 2)3;");
        int[] next = {2, 1, 1, 3, 1, 1, 4, 5, 4, 6};
        int[] top = {0, 9, 8, 1, 6, 5, 2, 6, 1, 9};
        int[] height = {1, 1, 2, 3, 1, 2, 3, 1, 3, 1};
        int[] dump = {0, 0, 0, 0, 1, 1, 1, 1, 0, 0};
        for (int s = 0; s < next.length; s++) {
            SHEET.due("next() at " + s, x.next(), next[s]);
            SHEET.due("top(0) at " + s, x.top(0), top[s]);
            SHEET.due("count(2) at " + s, x.count(2), height[s]);
            SHEET.due("count(3) at " + s, x.count(3), dump[s]);
            SHEET.due("why(0) at " + s, x.why(0), dump[s] == 1 ? 1 : NeedSteps.BAD);
            SHEET.due("step(1) at " + s, x.step(1), next[s] == 6 ? 0 : 1);
        }
        SHEET.due("the NUMBER", x.node(9, 1), 6);
        SHEET.due("the NUMBER within", x.node(6, 1), 3);
        NeedSteps y = Sheet.program("main=x;x=1;");
        y.step(1);
        SHEET.due("top(0): what was MADE", y.top(0), 1);
        SHEET.due("node(0, 0): a POINTER", y.node(0, 0), 6);
        SHEET.due("node(0, 1)", y.node(0, 1), 1);
        NeedSteps z = Sheet.program("main=if 1 2 3;");
        z.step(5);
        SHEET.due("top(0): the POINTER itself", z.node(z.top(0), 0), 6);
        SHEET.due("next(): a POINTER", z.next(), 0);
    }

    private static void numbers() {
        SHEET.number("main=add 2 3;", 5);
        SHEET.number("main=sub 2 3;", -1);
        SHEET.number("main=mul 12 12;", 144);
        SHEET.number("main=quo 7 2;", 3);
        SHEET.number("main=quo(sub 0 7)2;", -3);
        SHEET.number("main=quo 7(sub 0 2);", -3);
        SHEET.number("main=quo 0 5;", 0);
        SHEET.number("main=less 1 2;", 1);
        SHEET.number("main=less 2 2;", 0);
        SHEET.number("main=less 3 2;", 0);
        SHEET.number("main=less(sub 0 1)0;", 1);
        SHEET.number("main=same 2 2;", 1);
        SHEET.number("main=same 2 3;", 0);
        SHEET.number("main=if 1 2 3;", 2);
        SHEET.number("main=if 0 2 3;", 3);
        SHEET.number("main=if(sub 0 1)2 3;", 2);
        SHEET.number("main=mul 999999999 999999999;", 999999999 * 999999999);
        SHEET.number("main=mul 536870912 4;", Integer.MIN_VALUE);
        SHEET.number("main=quo(mul 536870912 4)(sub 0 1);", Integer.MIN_VALUE);
        SHEET.number("main=sub(mul 536870912 4)1;", Integer.MAX_VALUE);
        SHEET.error("main=quo 1 0;", 3, 3);
        SHEET.error("main=quo 0(sub 1 1);", 8, 3);
    }

    private static void lists() {
        SHEET.number("main=head(cons 4 5);", 4);
        SHEET.number("main=tail(cons 4 5);", 5);
        SHEET.number("main=empty nil;", 1);
        SHEET.number("main=empty(cons 1 2);", 0);
        SHEET.error("main=head nil;", 2, 4);
        SHEET.error("main=tail nil;", 2, 4);
        NeedSteps x = Sheet.program("main=cons(add 1 2)nil;");
        x.step(2000);
        SHEET.due("rest() of a PAIR", x.rest(), 1);
        SHEET.due("the PAIR's first: not worked out", x.node(x.node(x.top(0), 1), 0), 1);
        SHEET.due("the PAIR's second", x.node(x.node(x.top(0), 2), 0), 5);
        // the head's node as it stands in the PAIR: a let's POINTER
        NeedSteps y = Sheet.program("main=let a=7;in head(cons a a);");
        y.step(2000);
        SHEET.due("a way by POINTERS", y.node(1, 0), 6);
        SHEET.due("the NUMBER", y.node(y.top(0), 1), 7);
        SHEET.number("main=sum(upto 1 4);sum l=if(empty l)0(add(head l)(sum(tail l)));"
            + "upto a b=if(less b a)nil(cons a(upto(add a 1)b));", 10);
    }

    private static void laziness() {
        SHEET.number("main=k 1(quo 1 0);k a b=a;", 1);
        SHEET.number("main=if 1 2(quo 1 0);", 2);
        SHEET.number("main=head(cons 1(quo 1 0));", 1);
        SHEET.number("main=let x=x;in if 1 2 x;", 2);
        SHEET.number("main=let x=x;in head(cons 3 x);", 3);
        SHEET.number("main=head(tail ones);ones=cons 1 ones;", 1);
        NeedSteps x = SHEET.number("main=let x=f 1;in add x x;f a=add a a;", 4);
        SHEET.due("profile(1, 0): worked out once", x.profile(1, 0), 1);
        NeedSteps y = SHEET.number("main=add(f 1)(f 1);f a=add a a;", 4);
        SHEET.due("profile(1, 0): not shared", y.profile(1, 0), 2);
        NeedSteps z = SHEET.number("main=add c c;c=f 3;f a=mul a a;", 18);
        SHEET.due("profile(1, 0): a DEFINITION is shared", z.profile(1, 0), 1);
        SHEET.due("profile(2, 0)", z.profile(2, 0), 1);
    }

    private static void values() {
        SHEET.number("main=seq 1 5;", 5);
        SHEET.number("main=seq nil 5;", 5);
        SHEET.number("main=seq(add 1)5;", 5);
        SHEET.number("main=seq add 5;", 5);
        SHEET.number("main=seq f 5;f a=quo 1 0;", 5);
        SHEET.number("main=seq(f 1)5;f a b=quo 1 0;", 5);
        SHEET.number("main=seq(cons(quo 1 0)1)5;", 5);
        SHEET.number("main=seq(h 1)5;h=add;", 5);
        SHEET.number("main=seq(let g=f 1;in g)5;f a b=a;", 5);
        SHEET.number("main=let g=if 1;in add(g 2 3)(g 4 5);", 6);
        SHEET.number("main=f 1 2 3;f a=g;g a b=sub b a;", 1);
        NeedSteps caf = Sheet.program("main=seq g 5;g=quo 1 0;");
        caf.step(2000);
        SHEET.due("a FUNCTION of no PARAMETER is no VALUE", caf.error(), 3);
        NeedSteps part = Sheet.program("main=if 1 2;");
        SHEET.due("step(2000)", part.step(2000), 3);
        SHEET.due("rest() of another VALUE", part.rest(), 3);
        SHEET.due("count(2): what it is applied to", part.count(2), 3);
        NeedSteps function = Sheet.program("main=f;f a=a;");
        SHEET.due("step(2000)", function.step(2000), 1);
        SHEET.due("rest() of a FUNCTION", function.rest(), 3);
        // a partial APPLY is a VALUE at once: it is not NEEDED, so nothing goes onto the DUMP
        NeedSteps noNeed = Sheet.program("main=seq(add 1)5;");
        noNeed.step(3);
        SHEET.due("next()", noNeed.next(), 4);
    }

    private static void appliedToNothing() {
        SHEET.error("main=1 2;", 2, 1);
        SHEET.error("main=nil 1;", 2, 1);
        SHEET.error("main=cons 1 2 3;", 5, 1);
        SHEET.error("main=add 1 2 3;", 5, 1);
        NeedSteps x = SHEET.error("main=add(1 2)3;", 5, 1);
        SHEET.due("why(0)", x.why(0), 1);
        SHEET.due("step(1) with an ERROR", x.step(1), 0);
        SHEET.due("error()", x.error(), 1);
        SHEET.due("rest() with an ERROR", x.rest(), NeedSteps.NO);
        SHEET.due("count(4): nothing changed", x.count(4), 5);
    }

    private static void otherSorts() {
        SHEET.error("main=add nil 1;", 3, 2);
        SHEET.error("main=add 1 nil;", 3, 2);
        SHEET.error("main=add nil(quo 1 0);", 3, 2);
        SHEET.error("main=quo nil 0;", 3, 2);
        SHEET.error("main=same add 1;", 3, 2);
        SHEET.error("main=if nil 1 2;", 4, 2);
        SHEET.error("main=if(add 1)1 2;", 4, 2);
        SHEET.error("main=head 1;", 2, 2);
        SHEET.error("main=tail f;f a=a;", 2, 2);
        SHEET.error("main=empty(add 1);", 2, 2);
        SHEET.error("main=less(cons 1 2)1;", 8, 2);
    }

    private static void rings() {
        SHEET.error("main=let x=x;in add x 1;", 3, 5);
        SHEET.error("main=let x=x;in add 1 x;", 3, 5);
        SHEET.error("main=let x=y;y=x;in head x;", 2, 5);
        SHEET.error("main=let x=x;in seq x 1;", 3, 5);
        SHEET.error("main=let x=add x 1;in x;", 4, 5);
        SHEET.error("main=x;x=add x 1;", 4, 5);
        NeedSteps x = SHEET.error("main=let x=add y 1;y=add x 1;in x;", 7, 5);
        SHEET.due("count(3): the lowest is one on the DUMP", x.count(3), 1);
        NeedSteps pair = Sheet.program("main=let x=x;in cons x x;");
        pair.step(2000);
        SHEET.due("rest(): cons wants nothing", pair.rest(), 1);
        // a thing in its turn: the first is NEEDED ahead of the second's ring
        NeedSteps turn = Sheet.program("main=let x=x;in add(add 1 2)x;");
        turn.step(3);
        SHEET.due("next()", turn.next(), 3);
        SHEET.due("step(2000)", turn.step(2000), 5);
        SHEET.due("error()", turn.error(), 5);
    }

    private static void fullOfSteps() {
        NeedSteps x = Sheet.program("main=main;");
        SHEET.due("step(2000)", x.step(2000), 2000);
        SHEET.due("state()", x.state(), 0);
        SHEET.due("step(2000)", x.step(2000), 2000);
        SHEET.due("step(1000)", x.step(1000), 1000);
        SHEET.due("state(): 5000 done, none tried beyond", x.state(), 0);
        SHEET.due("step(1)", x.step(1), 0);
        SHEET.due("state()", x.state(), 3);
        SHEET.due("error()", x.error(), 0);
        SHEET.due("next(): whether FULL or not", x.next(), 0);
        SHEET.due("sweep()", x.sweep(), 0);
        SHEET.due("state() behind sweep()", x.state(), 0);
        SHEET.due("step(1)", x.step(1), 0);
        SHEET.due("state()", x.state(), 3);
        SHEET.due("back(1)", x.back(1), 4999);
        SHEET.due("state() behind back()", x.state(), 0);
        SHEET.due("step(9)", x.step(9), 1);
    }

    /** An APPLY whose first node leads to it again: a place more every two STEPS. */
    private static void fullOfPlaces() {
        NeedSteps x = Sheet.program("main=let x=x 1;in x;");
        SHEET.due("step(2000)", x.step(2000), 1200);
        SHEET.due("state()", x.state(), 3);
        SHEET.due("count(2)", x.count(2), 600);
        SHEET.due("next(): whether FULL or not", x.next(), 1);
        SHEET.due("top(599)", x.top(599), 3);
        SHEET.due("top(600)", x.top(600), NeedSteps.BAD);
        SHEET.due("node(3, 4)", x.node(3, 4), 601);
        SHEET.due("back(1200)", x.back(1200), 0);
        SHEET.due("count(2)", x.count(2), 1);
    }

    /** Each loop makes one node, and the POINTERS keep them all. */
    private static void fullOfNodes() {
        NeedSteps x = Sheet.program("main=loop 0;loop n=loop n;");
        SHEET.due("step(2000)", x.step(2000), 794);
        SHEET.due("state()", x.state(), 3);
        SHEET.due("count(0): just 400", x.count(0), 400);
        SHEET.due("next(): whether FULL or not", x.next(), 2);
        SHEET.due("node(399, 0)", x.node(399, 0), 1);
        SHEET.due("node(400, 0)", x.node(400, 0), NeedSteps.BAD);
        SHEET.due("way(399, -1)", x.way(399, -1), 1);
        SHEET.due("way(398, -1)", x.way(398, -1), 397);
        SHEET.due("sweep()", x.sweep(), 0);
        SHEET.due("profile(1, 0)", x.profile(1, 0), 396);
    }
}
