/** Promises 6 to 9: step, state, error, next. */
public final class StepTest {
    private static final Sheet SHEET = new Sheet("step");
    private static final int[] OUTSIDE = {0, -1, 2001, 2002, 5000, Integer.MIN_VALUE, Integer.MAX_VALUE};

    /** 600 places are taken by it after 1200 STEPS. */
    private static final String PLACES = "main=let x=x 1;in x;";

    /** 400 nodes are made by it after 794 STEPS. */
    private static final String NODES = "main=loop 0;loop n=loop n;";

    public static void main(String[] args) {
        upToN();
        untilNoneCanBeDone();
        stoppedAt();
        stepRefuses();
        stateOfTheLatest();
        stateBehindSweepAndBack();
        stateRefuses();
        errorOfTheLatest();
        errorRefuses();
        everyKindOfNext();
        nextWhetherFull();
        nextAndErrors();
        nextRefuses();
        laziness();
        SHEET.end();
    }

    private static void upToN() {
        SHEET.sentence("Promise 6: step", "Up to n STEPS (1 to 2000),");
        NeedSteps x = Sheet.program("main=main;");
        SHEET.due("step(1)", x.step(1), 1);
        SHEET.due("count(4)", x.count(4), 1);
        SHEET.due("step(2)", x.step(2), 2);
        SHEET.due("step(2000)", x.step(2000), 2000);
        SHEET.due("step(1999)", x.step(1999), 1999);
        SHEET.due("count(4)", x.count(4), 4002);
        for (int n : OUTSIDE) {
            SHEET.due("step(" + n + ")", x.step(n), NeedSteps.BAD);
        }
        SHEET.due("count(4) behind BAD", x.count(4), 4002);
        NeedSteps y = Sheet.program("main=add 1 2;");
        SHEET.due("step(3) of 4", y.step(3), 3);
        SHEET.due("step(1) of 4", y.step(1), 1);
        SHEET.due("state(): none was tried beyond", y.state(), 0);
        SHEET.due("step(1)", y.step(1), 0);
    }

    private static void untilNoneCanBeDone() {
        SHEET.sentence("Promise 6: step", "until none can be done (AT REST, an ERROR, FULL),");
        NeedSteps rest = Sheet.program("main=add 1 2;");
        SHEET.due("step(2000): AT REST", rest.step(2000), 4);
        SHEET.due("step(2000) again", rest.step(2000), 0);
        SHEET.due("count(4)", rest.count(4), 4);
        NeedSteps error = Sheet.program("main=quo 1 0;");
        SHEET.due("step(2000): an ERROR", error.step(2000), 3);
        SHEET.due("step(1) again", error.step(1), 0);
        NeedSteps places = Sheet.program(PLACES);
        SHEET.due("step(2000): FULL of places", places.step(2000), 1200);
        SHEET.due("step(1) again", places.step(1), 0);
        NeedSteps nodes = Sheet.program(NODES);
        SHEET.due("step(2000): FULL of nodes", nodes.step(2000), 794);
        SHEET.due("step(1) again", nodes.step(1), 0);
        NeedSteps steps = Sheet.program("main=main;");
        steps.step(2000);
        steps.step(2000);
        SHEET.due("step(2000): FULL of STEPS", steps.step(2000), 1000);
        SHEET.due("step(1) again", steps.step(1), 0);
    }

    private static void stoppedAt() {
        SHEET.sentence("Promise 6: step",
            "or a FUNCTION that is stopped at would be MADE (but by the first of them): how many were done.");
        NeedSteps x = Sheet.program("main=f 3;f n=if n(f(sub n 1))7;");
        x.stopAt(1);
        SHEET.due("step(2000): main, APPLY", x.step(2000), 2);
        SHEET.due("state() at a stop", x.state(), 0);
        SHEET.due("next()", x.next(), 2);
        SHEET.due("profile(1, 0)", x.profile(1, 0), 0);
        // MADE; three APPLYS; if is done; POINTER; APPLY
        SHEET.due("step(2000): the first STEP is not stopped", x.step(2000), 7);
        SHEET.due("profile(1, 0)", x.profile(1, 0), 1);
        SHEET.due("step(1)", x.step(1), 1);
        SHEET.due("profile(1, 0)", x.profile(1, 0), 2);
        // just as many STEPS as there are ahead of the stop
        NeedSteps y = Sheet.program("main=f 3;f n=if n(f(sub n 1))7;");
        y.stopAt(1);
        SHEET.due("step(1)", y.step(1), 1);
        SHEET.due("step(1)", y.step(1), 1);
        SHEET.due("step(2): not stopped by the first", y.step(2), 2);
        NeedSteps main = Sheet.program("main=1;");
        main.stopAt(0);
        SHEET.due("step(9): main is the first", main.step(9), 1);
        NeedSteps at = Sheet.program("main=x;x=main;");
        at.stopAt(1);
        SHEET.due("step(9): x is the second", at.step(9), 1);
        // where it is a VALUE it is not MADE
        NeedSteps value = Sheet.program("main=seq f(f 5);f a=a;");
        value.stopAt(1);
        SHEET.due("step(2000)", value.step(2000), 6);
        SHEET.due("top(0)", value.top(0), 1);
        NeedSteps rest = Sheet.program("main=f;f a=a;");
        rest.stopAt(1);
        SHEET.due("step(9)", rest.step(9), 1);
        SHEET.due("state(): AT REST, not stopped", rest.state(), 1);
        // with 400 nodes, too, it stops ahead of the FUNCTION: that it is FULL, the next one finds
        NeedSteps full = Sheet.program(NODES);
        full.step(793);
        full.stopAt(1);
        SHEET.due("step(9): APPLY", full.step(9), 1);
        SHEET.due("state() at the stop", full.state(), 0);
        SHEET.due("next()", full.next(), 2);
        SHEET.due("step(9)", full.step(9), 0);
        SHEET.due("state(): FULL", full.state(), 3);
        // other DEFINITIONS do not stop
        NeedSteps other = Sheet.program("main=g 1;f a=a;g a=a;");
        other.stopAt(1);
        other.step(2000);
        SHEET.due("rest()", other.rest(), 0);
        // a PRIMITIVE, a NUMBER of the same number as the DEFINITION is none
        NeedSteps number = Sheet.program("main=sub(add 1 1)1;f=1;");
        number.stopAt(1);
        number.step(2000);
        SHEET.due("rest()", number.rest(), 0);
    }

    private static void stepRefuses() {
        SHEET.sentence("Promise 6: step", "BAD; NO: no program.");
        NeedSteps x = Sheet.program("main=add(f 1)2;f a=quo a 0;");
        for (int steps = 0; steps < 4; steps++) {
            String before = Picture.of(x);
            SHEET.due("step(0)", x.step(0), NeedSteps.BAD);
            SHEET.due("step(2001)", x.step(2001), NeedSteps.BAD);
            SHEET.due("step(-1)", x.step(-1), NeedSteps.BAD);
            SHEET.same("what there is behind BAD", Picture.of(x), before);
            x = Sheet.program("main=add(f 1)2;f a=quo a 0;");
            x.step(1 << 2 * steps);
        }
        NeedSteps rest = Sheet.program("main=1;");
        rest.step(9);
        SHEET.due("step(0) AT REST", rest.step(0), NeedSteps.BAD);
        SHEET.due("state() behind it", rest.state(), 1);
        NeedSteps none = new NeedSteps();
        for (int n : OUTSIDE) {
            SHEET.due("step(" + n + ") without a program", none.step(n), NeedSteps.NO);
        }
        SHEET.due("step(1) without a program", none.step(1), NeedSteps.NO);
    }

    private static void stateOfTheLatest() {
        SHEET.sentence("Promise 7: state",
            "What came of the latest STEP that was tried: 0 it goes on (also: none was; behind sweep(), back()), 1 AT REST, 2 an ERROR, 3 FULL.");
        NeedSteps rest = Sheet.program("main=1;");
        SHEET.due("state(): none was tried", rest.state(), 0);
        rest.step(1);
        SHEET.due("state(): it went on", rest.state(), 0);
        SHEET.due("next()", rest.next(), 6);
        SHEET.due("state(): next() tries none", rest.state(), 0);
        rest.step(1);
        SHEET.due("state(): AT REST", rest.state(), 1);
        NeedSteps both = Sheet.program("main=1;");
        SHEET.due("step(2): the second is tried", both.step(2), 1);
        SHEET.due("state()", both.state(), 1);
        NeedSteps error = Sheet.program("main=1 2;");
        error.step(2);
        SHEET.due("state(): it went on", error.state(), 0);
        error.step(1);
        SHEET.due("state(): an ERROR", error.state(), 2);
        NeedSteps full = Sheet.program(PLACES);
        full.step(1200);
        SHEET.due("state(): it went on", full.state(), 0);
        full.step(1);
        SHEET.due("state(): FULL", full.state(), 3);
        NeedSteps nodes = Sheet.program(NODES);
        nodes.step(794);
        SHEET.due("state(): it went on", nodes.state(), 0);
        nodes.step(1);
        SHEET.due("state(): FULL", nodes.state(), 3);
        Sheet.feed(nodes, "main=1;");
        nodes.read();
        SHEET.due("state() of a new program: none was tried", nodes.state(), 0);
    }

    private static void stateBehindSweepAndBack() {
        SHEET.sentence("Promise 7: state", "(also: none was; behind sweep(), back())");
        String[] texts = {"main=1;", "main=quo 1 0;", PLACES, NODES};
        for (int state = 1; state < 5; state++) {
            String text = texts[state - 1];
            int due = Math.min(state, 3);
            NeedSteps x = Sheet.program(text);
            int steps = x.step(2000);
            SHEET.due("state() of " + text, x.state(), due);
            x.sweep();
            SHEET.due("state() behind sweep()", x.state(), 0);
            x.sweep();
            SHEET.due("step(1)", x.step(1), 0);
            SHEET.due("state()", x.state(), due);
            SHEET.due("back(0)", x.back(0), steps);
            SHEET.due("state() behind back(0)", x.state(), 0);
            x.step(1);
            SHEET.due("back(1)", x.back(1), steps - 1);
            SHEET.due("state() behind back(1)", x.state(), 0);
            x.step(2);
            SHEET.due("state()", x.state(), due);
            SHEET.due("back(-1)", x.back(-1), NeedSteps.BAD);
            SHEET.due("back(all and one)", x.back(steps + 1), NeedSteps.BAD);
            SHEET.due("state() behind BAD", x.state(), due);
        }
    }

    private static void stateRefuses() {
        SHEET.sentence("Promise 7: state", "3 FULL. NO: no program.");
        NeedSteps x = new NeedSteps();
        SHEET.due("state() of a new object", x.state(), NeedSteps.NO);
        Sheet.feed(x, "main=1;");
        SHEET.due("state() ahead of read()", x.state(), NeedSteps.NO);
        x.read();
        x.step(9);
        SHEET.due("state()", x.state(), 1);
        x.read();
        SHEET.due("state() behind a FAULT", x.state(), NeedSteps.NO);
    }

    private static void errorOfTheLatest() {
        SHEET.sentence("Promise 8: error", "The ERROR of the latest STEP that was tried (0: none).");
        String[] texts = {"main=1 2;", "main=add nil 1;", "main=quo 1 0;", "main=head nil;", "main=let x=x;in add x 1;"};
        for (int error = 1; error <= 5; error++) {
            NeedSteps x = Sheet.program(texts[error - 1]);
            SHEET.due("error(): none was tried", x.error(), 0);
            int steps = 0;
            while (x.next() != 7 && steps < 9) {
                SHEET.due("step(1)", x.step(1), 1);
                SHEET.due("error(): the STEP went on", x.error(), 0);
                steps++;
            }
            SHEET.due("step(1)", x.step(1), 0);
            SHEET.due("error() of " + texts[error - 1], x.error(), error);
            SHEET.due("step(0)", x.step(0), NeedSteps.BAD);
            SHEET.due("error() behind BAD", x.error(), error);
            x.back(1);
            x.step(1);
            SHEET.due("error(): the latest went on", x.error(), 0);
            x.step(1);
            SHEET.due("error()", x.error(), error);
            Sheet.feed(x, "main=1;");
            x.read();
            SHEET.due("error() of a new program", x.error(), 0);
            x.step(9);
            SHEET.due("error() AT REST", x.error(), 0);
        }
        for (String text : new String[] {PLACES, NODES}) {
            NeedSteps full = Sheet.program(text);
            full.step(2000);
            SHEET.due("state()", full.state(), 3);
            SHEET.due("error() when FULL", full.error(), 0);
        }
        // as state() is 0 there, there is no ERROR behind sweep(), back()
        NeedSteps x = Sheet.program("main=quo 1 0;");
        x.step(9);
        x.sweep();
        SHEET.due("error() behind sweep()", x.error(), 0);
        x.step(9);
        x.back(0);
        SHEET.due("error() behind back(0)", x.error(), 0);
    }

    private static void errorRefuses() {
        SHEET.sentence("Promise 8: error", "(0: none). NO.");
        NeedSteps x = new NeedSteps();
        SHEET.due("error() of a new object", x.error(), NeedSteps.NO);
        Sheet.feed(x, "main=1 2;");
        x.read();
        x.step(9);
        SHEET.due("error()", x.error(), 1);
        x.read();
        SHEET.due("error() behind a FAULT", x.error(), NeedSteps.NO);
    }

    /** Nodes: 1 add; 2 add, 3 of 1, 4 of 2, 5 and 6 APPLYS; 7 of 3; 8 and 9 APPLYS. */
    private static void everyKindOfNext() {
        SHEET.sentence("Promise 9: next",
            "0 POINTER, 1 APPLY, 2 a FUNCTION is MADE, 3 a PRIMITIVE needs a thing, 4 a PRIMITIVE is done, 5 a STACK comes back, 6 none: it is AT REST, 7 none: an ERROR.");
        NeedSteps x = Sheet.program("main=add(add 1 2)3;");
        int[] next = {2, 1, 1, 3, 1, 1, 4, 5, 4, 6};
        int[] top = {0, 9, 8, 1, 6, 5, 2, 6, 1, 9};
        int[] height = {1, 1, 2, 3, 1, 2, 3, 1, 3, 1};
        int[] dump = {0, 0, 0, 0, 1, 1, 1, 1, 0, 0};
        for (int s = 0; s < next.length; s++) {
            SHEET.due("next() at " + s, x.next(), next[s]);
            SHEET.due("top(0) at " + s, x.top(0), top[s]);
            SHEET.due("count(2) at " + s, x.count(2), height[s]);
            SHEET.due("count(3) at " + s, x.count(3), dump[s]);
            SHEET.due("why(0) at " + s, x.why(0), dump[s] == 1 ? 1 : NeedSteps.BAD);
            SHEET.due("step(1) at " + s, x.step(1), next[s] == 6 ? 0 : 1);
        }
        SHEET.due("the NUMBER", x.node(9, 1), 6);
        SHEET.due("the NUMBER within", x.node(6, 1), 3);
        NeedSteps pointer = Sheet.program("main=if 1 2 3;");
        pointer.step(5);
        SHEET.due("next(): a POINTER", pointer.next(), 0);
        NeedSteps error = Sheet.program("main=1 2;");
        error.step(2);
        SHEET.due("next(): an ERROR", error.next(), 7);
        // nothing changes by asking
        String before = Picture.of(error);
        error.next();
        SHEET.same("what there is behind next()", Picture.of(error), before);
    }

    private static void nextWhetherFull() {
        SHEET.sentence("Promise 9: next", "What a STEP would do now (whether FULL or not):");
        NeedSteps places = Sheet.program(PLACES);
        places.step(1200);
        SHEET.due("next() with 600 places: APPLY", places.next(), 1);
        places.step(1);
        SHEET.due("next() when FULL: APPLY", places.next(), 1);
        NeedSteps nodes = Sheet.program(NODES);
        nodes.step(794);
        SHEET.due("next() with 400 nodes: a FUNCTION", nodes.next(), 2);
        nodes.step(1);
        SHEET.due("next() when FULL: a FUNCTION", nodes.next(), 2);
        NeedSteps need = Sheet.program("main=g head;g h=" + "h(".repeat(11) + "h(g h)" + ")".repeat(11) + ";");
        need.step(2000);
        SHEET.due("next() when FULL: a thing is NEEDED", need.next(), 3);
        NeedSteps steps = Sheet.program("main=main;");
        steps.step(2000);
        steps.step(2000);
        steps.step(1000);
        SHEET.due("next() with 5000 STEPS: POINTER", steps.next(), 0);
        steps.step(1);
        SHEET.due("next() when FULL: POINTER", steps.next(), 0);
        NeedSteps stop = Sheet.program("main=f;f=1;");
        stop.stopAt(1);
        stop.step(9);
        SHEET.due("next() at a stop: a FUNCTION", stop.next(), 2);
    }

    private static void nextAndErrors() {
        SHEET.sentence("Promise 9: next", "6 none: it is AT REST, 7 none: an ERROR.");
        String[] texts = {"main=1 2;", "main=add nil 1;", "main=add 1 nil;", "main=quo 1 0;", "main=head nil;",
            "main=tail nil;", "main=let x=x;in add x 1;", "main=let x=add x 1;in x;"};
        for (String text : texts) {
            NeedSteps x = Sheet.program(text);
            int steps = x.step(2000);
            SHEET.due("next() of " + text, x.next(), 7);
            x.back(0);
            SHEET.due("next() of " + text + " behind back(0)", x.next(), 7);
            x.back(1);
            SHEET.holds("next() a STEP before, " + text, x.next() < 6);
            SHEET.due("count(4)", x.count(4), steps - 1);
        }
        for (String text : new String[] {"main=1;", "main=nil;", "main=cons 1 2;", "main=add 1;", "main=f;f a=a;"}) {
            NeedSteps x = Sheet.program(text);
            x.step(2000);
            SHEET.due("next() of " + text, x.next(), 6);
            x.back(1);
            SHEET.holds("next() a STEP before, " + text, x.next() < 6);
        }
    }

    private static void nextRefuses() {
        SHEET.sentence("Promise 9: next", "7 none: an ERROR. NO.");
        NeedSteps x = new NeedSteps();
        SHEET.due("next() of a new object", x.next(), NeedSteps.NO);
        Sheet.feed(x, "main=1;");
        SHEET.due("next() ahead of read()", x.next(), NeedSteps.NO);
        x.read();
        SHEET.due("next()", x.next(), 2);
        x.read();
        SHEET.due("next() behind a FAULT", x.next(), NeedSteps.NO);
    }

    /** By need, and each shared thing once. */
    private static void laziness() {
        SHEET.sentence("What it is", "A lazy program as a graph of nodes, worked out step by step by need:");
        SHEET.number("main=k 1(quo 1 0);k a b=a;", 1);
        SHEET.number("main=if 1 2(quo 1 0);", 2);
        SHEET.number("main=head(cons 1(quo 1 0));", 1);
        SHEET.number("main=head(tail ones);ones=cons 1 ones;", 1);
        SHEET.number("main=f 1 2 3;f a=g;g a b=sub b a;", 1);
        SHEET.number("main=let g=if 1;in add(g 2 3)(g 4 5);", 6);
        SHEET.number("main=sum(upto 1 4);sum l=if(empty l)0(add(head l)(sum(tail l)));"
            + "upto a b=if(less b a)nil(cons a(upto(add a 1)b));", 10);
        NeedSteps x = SHEET.number("main=let x=f 1;in add x x;f a=add a a;", 4);
        SHEET.due("profile(1, 0): worked out once", x.profile(1, 0), 1);
        NeedSteps y = SHEET.number("main=add(f 1)(f 1);f a=add a a;", 4);
        SHEET.due("profile(1, 0): not shared", y.profile(1, 0), 2);
        NeedSteps z = SHEET.number("main=add c c;c=f 3;f a=mul a a;", 18);
        SHEET.due("profile(1, 0): a DEFINITION is shared", z.profile(1, 0), 1);
        SHEET.due("profile(2, 0)", z.profile(2, 0), 1);
    }
}
