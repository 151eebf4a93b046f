/** Promises 10 to 13: stopAt, back, sweep, count. */
public final class BackTest {
    private static final Sheet SHEET = new Sheet("back");
    private static final int[] FAR = {Integer.MIN_VALUE, Integer.MIN_VALUE + 1, Integer.MAX_VALUE - 1,
        Integer.MAX_VALUE};

    /**
     * Nodes: 2 seq; 3 add, 4 of 1, 5 of 2, 6 and 7 APPLYS; 8 of 5, 9 APPLY of f; 10 and 11 APPLYS.
     */
    private static final String SEQ = "main=seq(add 1 2)(f 5);f x=add x x;";

    public static void main(String[] args) {
        stops();
        stopRefuses();
        asBefore();
        everyStepBefore();
        farBack();
        sweptByThen();
        sweptAgain();
        sweptAtTheLastSteps();
        allCounts();
        stopStays();
        backRefuses();
        freed();
        keptOnes();
        ringsAreFreed();
        sweptMakesRoom();
        sweepRefuses();
        counts();
        countsAtEdges();
        countRefuses();
        SHEET.end();
    }

    private static void stops() {
        SHEET.sentence("Promise 10: stopAt", "It stops at a DEFINITION (-1: at none): the one that it did, -1: none.");
        NeedSteps x = Sheet.program("main=f 3;f n=if n(f(sub n 1))7;");
        SHEET.due("stopAt(-1): none so far", x.stopAt(-1), -1);
        SHEET.due("stopAt(0): none so far", x.stopAt(0), -1);
        SHEET.due("stopAt(1)", x.stopAt(1), 0);
        SHEET.due("stopAt(1)", x.stopAt(1), 1);
        SHEET.due("step(2000)", x.step(2000), 2);
        SHEET.due("stopAt(-1)", x.stopAt(-1), 1);
        SHEET.due("stopAt(-1)", x.stopAt(-1), -1);
        x.step(2000);
        SHEET.due("rest(): at none", x.rest(), 0);
        SHEET.due("profile(1, 0)", x.profile(1, 0), 4);
        // each of twenty asks for the next one; main is the last, and asks for the first
        StringBuilder twenty = new StringBuilder();
        for (int d = 0; d < 19; d++) {
            twenty.append('d').append(d).append('=').append(d == 18 ? "main" : "d" + (d + 1)).append(';');
        }
        NeedSteps y = Sheet.program(twenty + "main=d0;");
        SHEET.due("stopAt(19)", y.stopAt(19), -1);
        SHEET.due("stopAt(18)", y.stopAt(18), 19);
        SHEET.due("step(2000)", y.step(2000), 19);
        SHEET.due("top(0)", y.top(0), 18);
        SHEET.due("stopAt(0)", y.stopAt(0), 18);
        SHEET.due("back(19)", y.back(19), 0);
        SHEET.due("step(2000)", y.step(2000), 1);
        SHEET.due("top(0)", y.top(0), 0);
        // another program is stopped at none
        x.stopAt(1);
        Sheet.feed(x, "main=f;f=1;");
        x.read();
        SHEET.due("stopAt(-1) of a new program", x.stopAt(-1), -1);
    }

    private static void stopRefuses() {
        SHEET.sentence("Promise 10: stopAt", "-1: none. BAD; NO.");
        NeedSteps x = Sheet.program("main=f 3;f n=if n(f(sub n 1))7;");
        x.stopAt(1);
        SHEET.due("stopAt(-2)", x.stopAt(-2), NeedSteps.BAD);
        SHEET.due("stopAt(2) of two", x.stopAt(2), NeedSteps.BAD);
        SHEET.due("stopAt(20)", x.stopAt(20), NeedSteps.BAD);
        for (int d : FAR) {
            SHEET.due("stopAt(" + d + ")", x.stopAt(d), NeedSteps.BAD);
        }
        SHEET.due("step(2000): BAD changed nothing", x.step(2000), 2);
        SHEET.due("stopAt(0): BAD changed nothing", x.stopAt(0), 1);
        NeedSteps one = Sheet.program("main=1;");
        SHEET.due("stopAt(1) of one", one.stopAt(1), NeedSteps.BAD);
        SHEET.due("stopAt(0) of one", one.stopAt(0), -1);
        NeedSteps none = new NeedSteps();
        SHEET.due("stopAt(-1) without a program", none.stopAt(-1), NeedSteps.NO);
        SHEET.due("stopAt(0) without a program", none.stopAt(0), NeedSteps.NO);
        SHEET.due("stopAt(-2) without a program", none.stopAt(-2), NeedSteps.NO);
    }

    private static void asBefore() {
        SHEET.sentence("Promise 11: back",
            "It is as n STEPS (0 and more) before, when that many STEPS were done last");
        NeedSteps x = Sheet.program("main=add(add 1 2)3;");
        String atFirst = Picture.withoutLatest(x);
        SHEET.due("back(0) at first", x.back(0), 0);
        x.step(2000);
        SHEET.due("back(0)", x.back(0), 9);
        SHEET.due("back(4)", x.back(4), 5);
        SHEET.due("top(0)", x.top(0), 5);
        SHEET.due("count(3)", x.count(3), 1);
        SHEET.due("node(6, 0): an APPLY again", x.node(6, 0), 1);
        SHEET.due("back(4)", x.back(4), 1);
        SHEET.due("back(1)", x.back(1), 0);
        SHEET.same("all as at first", Picture.withoutLatest(x), atFirst);
        SHEET.due("step(2000)", x.step(2000), 9);
        SHEET.due("the NUMBER", x.node(9, 1), 6);
        NeedSteps all = Sheet.program("main=add(add 1 2)3;");
        all.step(2000);
        SHEET.due("back(9): all at once", all.back(9), 0);
        SHEET.same("all as at first", Picture.withoutLatest(all), atFirst);
        NeedSteps zero = Sheet.program(SEQ);
        zero.step(8);
        zero.sweep();
        String before = Picture.withoutLatest(zero);
        SHEET.due("back(0)", zero.back(0), 8);
        SHEET.same("back(0) changes no node", Picture.withoutLatest(zero), before);
    }

    /** From every number of STEPS back to every lesser one. */
    private static void everyStepBefore() {
        SHEET.sentence("Promise 11: back",
            "It is as n STEPS (0 and more) before, when that many STEPS were done last");
        String[] texts = {SEQ, "main=let a=cons 1 b;b=cons 2 a;in add(head a)(head(tail a));",
            "main=add(f 1)2;f a=quo a 0;"};
        for (String text : texts) {
            int all = Sheet.program(text).step(2000);
            String[] pictures = new String[all + 1];
            for (int s = 0; s <= all; s++) {
                NeedSteps x = Sheet.program(text);
                x.step(s == 0 ? 1 : s);
                x.back(s == 0 ? 1 : 0);
                pictures[s] = Picture.of(x);
            }
            for (int from = 0; from <= all; from++) {
                for (int to = 0; to <= from; to++) {
                    NeedSteps x = Sheet.program(text);
                    if (from > 0) {
                        x.step(from);
                    }
                    SHEET.due("back(" + (from - to) + ") of " + text, x.back(from - to), to);
                    SHEET.same("back from " + from + " to " + to + " of " + text, Picture.of(x), pictures[to]);
                }
            }
        }
    }

    private static void farBack() {
        SHEET.sentence("Promise 11: back", "how many STEPS there are.");
        NeedSteps x = Sheet.program("main=main;");
        for (int i = 0; i < 3; i++) {
            x.step(2000);
        }
        SHEET.due("back(5001)", x.back(5001), NeedSteps.BAD);
        SHEET.due("back(1) of 5000", x.back(1), 4999);
        SHEET.due("back(2999)", x.back(2999), 2000);
        SHEET.due("back(2000)", x.back(2000), 0);
        SHEET.due("count(4)", x.count(4), 0);
        NeedSteps y = Sheet.program("main=let x=x 1;in x;");
        y.step(2000);
        SHEET.due("back(1199) of 1200", y.back(1199), 1);
        SHEET.due("count(2)", y.count(2), 1);
        SHEET.due("step(2000)", y.step(2000), 1199);
        SHEET.due("back(1200)", y.back(1200), 0);
        NeedSteps z = Sheet.program("main=main;");
        for (int i = 0; i < 3; i++) {
            z.step(2000);
        }
        SHEET.due("back(5000) of 5000", z.back(5000), 0);
        SHEET.due("node(0, 0): a FUNCTION again", z.node(0, 0), 2);
    }

    private static void sweptByThen() {
        SHEET.sentence("Promise 11: back", "(also what was swept by then,");
        NeedSteps x = Sheet.program(SEQ);
        SHEET.due("step(8)", x.step(8), 8);
        SHEET.due("sweep(): add, 1, 2 and an APPLY", x.sweep(), 4);
        SHEET.due("node(6, 0): free", x.node(6, 0), NeedSteps.BAD);
        SHEET.due("node(7, 1): kept", x.node(7, 1), 3);
        SHEET.due("step(4)", x.step(4), 4);
        SHEET.due("top(0): the least free numbers", x.top(0), 5);
        SHEET.due("node(3, 3): made by f", x.node(3, 3), 1);
        SHEET.due("count(0)", x.count(0), 11);
        SHEET.due("count(5)", x.count(5), 15);
        SHEET.due("count(6)", x.count(6), 12);
        SHEET.due("back(1)", x.back(1), 11);
        SHEET.due("node(3, 0): swept before", x.node(3, 0), NeedSteps.BAD);
        SHEET.due("back(3)", x.back(3), 8);
        SHEET.due("count(0): swept by then", x.count(0), 8);
        SHEET.due("back(0)", x.back(0), 8);
        SHEET.due("count(0): still swept", x.count(0), 8);
        SHEET.due("back(1)", x.back(1), 7);
        SHEET.due("count(0): not swept by then", x.count(0), 12);
        SHEET.due("node(3, 3): made by main", x.node(3, 3), 0);
        SHEET.due("step(1)", x.step(1), 1);
        SHEET.due("count(0): the sweep is gone", x.count(0), 12);
        SHEET.due("step(4)", x.step(4), 4);
        SHEET.due("top(0)", x.top(0), 14);
        SHEET.due("back(4)", x.back(4), 8);
        SHEET.due("count(0)", x.count(0), 12);
    }

    private static void sweptAgain() {
        SHEET.sentence("Promise 11: back", "(also what was swept by then,");
        // two sweeps: back between them, and ahead of both
        NeedSteps x = Sheet.program("main=seq(add 1 2)(seq(add 3 4)(f 5));f x=add x x;");
        x.step(8);
        int first = x.sweep();
        int used = x.count(0);
        x.step(8);
        int second = x.sweep();
        SHEET.holds("both free some", first > 0 && second > 0);
        int less = x.count(0);
        x.step(2);
        SHEET.due("back(2)", x.back(2), 16);
        SHEET.due("count(0): both", x.count(0), less);
        SHEET.due("back(1)", x.back(1), 15);
        SHEET.due("count(0): the first", x.count(0), less + second);
        SHEET.due("back(7)", x.back(7), 8);
        SHEET.due("count(0): the first", x.count(0), used);
        SHEET.due("back(1)", x.back(1), 7);
        SHEET.due("count(0): none", x.count(0), used + first);
        // a program that is read has no sweeps of the one before
        NeedSteps y = Sheet.program(SEQ);
        y.step(8);
        y.sweep();
        Sheet.feed(y, SEQ);
        y.read();
        y.step(9);
        y.back(1);
        SHEET.due("count(0): a new program has no sweeps", y.count(0), 12);
    }

    /** The greatest numbers of STEPS that a sweep can be behind: 4999, and 5000, when none can be done. */
    private static void sweptAtTheLastSteps() {
        SHEET.sentence("Promise 11: back", "(also what was swept by then,");
        NeedSteps x = steps4999();
        int used = x.count(0);
        SHEET.due("sweep() behind 4999: add, 1, 2, seq and three APPLYS", x.sweep(), 7);
        SHEET.due("step(9): the 5000th", x.step(9), 1);
        SHEET.due("back(1)", x.back(1), 4999);
        SHEET.due("count(0): swept by then", x.count(0), used - 7);
        SHEET.due("back(1)", x.back(1), 4998);
        SHEET.due("count(0): not swept by then", x.count(0), used);
        SHEET.due("step(2)", x.step(2), 2);
        SHEET.due("count(0): the sweep is gone", x.count(0), used);
        NeedSteps y = steps4999();
        y.step(1);
        SHEET.due("sweep() behind 5000", y.sweep(), 7);
        SHEET.due("back(0)", y.back(0), 5000);
        SHEET.due("count(0): still swept", y.count(0), used - 7);
        SHEET.due("back(1)", y.back(1), 4999);
        SHEET.due("count(0): not swept by then", y.count(0), used);
        SHEET.due("step(9)", y.step(9), 1);
        SHEET.due("back(0)", y.back(0), 5000);
        SHEET.due("count(0): the sweep is gone", y.count(0), used);
        SHEET.due("back(5000)", y.back(5000), 0);
        SHEET.due("count(0)", y.count(0), 2);
    }

    private static NeedSteps steps4999() {
        NeedSteps x = Sheet.program("main=seq(add 1 2)x;x=x;");
        SHEET.due("4999 STEPS", x.step(2000) + x.step(2000) + x.step(999), 4999);
        return x;
    }

    private static void allCounts() {
        SHEET.sentence("Promise 11: back", "all counts;");
        NeedSteps x = Sheet.program("main=add(f 1)(f 2);f a=add a 1;");
        due(x, "at first", 2, 2, 1, 0, 0, 2, 2);
        x.step(6);
        due(x, "behind 6", 13, 13, 1, 1, 6, 13, 13);
        SHEET.due("profile(1, 0)", x.profile(1, 0), 1);
        SHEET.due("profile(1, 1)", x.profile(1, 1), 4);
        x.step(2000);
        SHEET.due("count(5)", x.count(5), 17);
        SHEET.due("profile(1, 0)", x.profile(1, 0), 2);
        SHEET.due("sweep()", x.sweep(), 14);
        SHEET.due("count(6)", x.count(6), 17);
        SHEET.due("back(all but 6)", x.back(x.count(4) - 6), 6);
        due(x, "behind 6 again", 13, 13, 1, 1, 6, 13, 13);
        SHEET.due("profile(1, 0)", x.profile(1, 0), 1);
        SHEET.due("profile(1, 1)", x.profile(1, 1), 4);
        SHEET.due("back(6)", x.back(6), 0);
        due(x, "at first again", 2, 2, 1, 0, 0, 2, 2);
        SHEET.due("profile(0, 0)", x.profile(0, 0), 0);
        SHEET.due("profile(0, 1)", x.profile(0, 1), 0);
        SHEET.due("profile(1, 0)", x.profile(1, 0), 0);
    }

    private static void stopStays() {
        SHEET.sentence("Promise 11: back", "what stopAt() told stays):");
        NeedSteps x = Sheet.program("main=f 3;f n=if n(f(sub n 1))7;");
        x.step(10);
        x.stopAt(1);
        SHEET.due("back(0)", x.back(0), 10);
        SHEET.due("stopAt(1) behind back(0)", x.stopAt(1), 1);
        SHEET.due("back(10)", x.back(10), 0);
        SHEET.due("step(2000): the stop stays", x.step(2000), 2);
        SHEET.due("stopAt(-1)", x.stopAt(-1), 1);
        x.back(1);
        SHEET.due("stopAt(0): none stays, too", x.stopAt(0), -1);
    }

    private static void backRefuses() {
        SHEET.sentence("Promise 11: back", "BAD: fewer were done; NO.");
        NeedSteps x = Sheet.program("main=add(add 1 2)3;");
        SHEET.due("back(1) at first", x.back(1), NeedSteps.BAD);
        SHEET.due("back(-1) at first", x.back(-1), NeedSteps.BAD);
        x.step(2000);
        String before = Picture.of(x);
        SHEET.due("back(-1)", x.back(-1), NeedSteps.BAD);
        SHEET.due("back(10) of 9", x.back(10), NeedSteps.BAD);
        for (int n : FAR) {
            SHEET.due("back(" + n + ")", x.back(n), NeedSteps.BAD);
        }
        SHEET.same("BAD changes nothing", Picture.of(x), before);
        SHEET.due("back(8)", x.back(8), 1);
        SHEET.due("back(2): fewer were done", x.back(2), NeedSteps.BAD);
        SHEET.due("back(1)", x.back(1), 0);
        SHEET.due("back(1)", x.back(1), NeedSteps.BAD);
        NeedSteps none = new NeedSteps();
        SHEET.due("back(0) without a program", none.back(0), NeedSteps.NO);
        SHEET.due("back(-1) without a program", none.back(-1), NeedSteps.NO);
    }

    private static void freed() {
        SHEET.sentence("Promise 12: sweep", "What nothing keeps is free: how many nodes.");
        NeedSteps x = Sheet.program("main=add 1 2;");
        SHEET.due("sweep() at first", x.sweep(), 0);
        x.step(1);
        SHEET.due("sweep(): all are kept", x.sweep(), 0);
        x.step(3);
        SHEET.due("sweep(): add, 1, 2 and an APPLY", x.sweep(), 4);
        SHEET.due("sweep() again", x.sweep(), 0);
        for (int node = 0; node < 8; node++) {
            SHEET.due("node(" + node + ", 5)", x.node(node, 5), node == 0 || node == 5 ? 1 : NeedSteps.BAD);
        }
        SHEET.due("count(0)", x.count(0), 2);
        SHEET.due("count(4): a sweep is no STEP", x.count(4), 4);
        SHEET.due("count(5): those MADE stay MADE", x.count(5), 6);
        SHEET.due("the NUMBER", x.node(x.top(0), 1), 3);
    }

    private static void keptOnes() {
        SHEET.sentence("Promise 12: sweep", "Kept are the first nodes of DEFINITIONS, all on STACKS, and what kept ones have.");
        // a FUNCTION that nothing points to is kept: it is the first node of a DEFINITION
        NeedSteps x = Sheet.program("f=1;g a=a;main=2;");
        x.step(9);
        SHEET.due("sweep()", x.sweep(), 0);
        SHEET.due("count(1)", x.count(1), 4);
        StringBuilder twenty = new StringBuilder("main=1;");
        for (int d = 1; d < 20; d++) {
            twenty.append('f').append(d).append("=2;");
        }
        NeedSteps many = Sheet.program(twenty.toString());
        many.step(9);
        SHEET.due("sweep()", many.sweep(), 0);
        SHEET.due("node(19, 5)", many.node(19, 5), 1);
        SHEET.due("count(1)", many.count(1), 21);
        // a DEFINITION that was worked out keeps what it came to
        NeedSteps caf = Sheet.program("main=seq c 5;c=add 1 2;");
        caf.step(2000);
        caf.sweep();
        SHEET.due("node(1, 0): a POINTER", caf.node(1, 0), 6);
        SHEET.due("its NUMBER is kept", caf.node(caf.node(1, 1), 1), 3);
        // all on STACKS: also those in the middle of one, and of one on the DUMP
        NeedSteps stacks = Sheet.program("main=sub(add(mul 2 3)1)4;");
        stacks.step(8);
        SHEET.due("count(3)", stacks.count(3), 2);
        SHEET.due("sweep()", stacks.sweep(), 0);
        stacks.step(2000);
        SHEET.due("the NUMBER", stacks.node(stacks.top(0), 1), 3);
        keptIsEnough();
    }

    /** What is swept behind every STEP is never missed. */
    private static void keptIsEnough() {
        String[] texts = {SEQ, "main=let x=add(f 1)2;in x;f a=seq(add 3 4)a;",
            "main=sum(upto 1 3);sum l=if(empty l)0(add(head l)(sum(tail l)));"
            + "upto a b=if(less b a)nil(cons a(upto(add a 1)b));"};
        int[] numbers = {10, 3, 6};
        for (int i = 0; i < texts.length; i++) {
            int all = Sheet.program(texts[i]).step(2000);
            NeedSteps x = Sheet.program(texts[i]);
            int steps = 0;
            while (steps < all && x.step(1) == 1) {
                x.sweep();
                steps++;
            }
            SHEET.due("as many STEPS of " + texts[i], steps, all);
            SHEET.due("the NUMBER of " + texts[i], x.node(x.top(0), 1), numbers[i]);
        }
    }

    private static void ringsAreFreed() {
        SHEET.sentence("Promise 12: sweep", "What nothing keeps is free: how many nodes.");
        // a ring whose nodes have each other, and nothing else has them
        NeedSteps x = Sheet.program("main=let a=cons 1 b;b=cons 2 a;in add(head a)(head(tail a));");
        SHEET.due("step(99)", x.step(99), 28);
        SHEET.due("count(0)", x.count(0), 20);
        SHEET.due("sweep()", x.sweep(), 18);
        SHEET.due("count(0)", x.count(0), 2);
        NeedSteps y = Sheet.program("main=let x=x;in seq 5 7;");
        y.step(99);
        SHEET.due("node(1, 5): a POINTER to itself", y.node(1, 5), 0);
        SHEET.due("sweep(): it, seq, 5 and an APPLY", y.sweep(), 4);
        SHEET.due("node(1, 0)", y.node(1, 0), NeedSteps.BAD);
    }

    private static void sweptMakesRoom() {
        SHEET.sentence("Promise 12: sweep", "What nothing keeps is free: how many nodes.");
        NeedSteps x = Sheet.program("main=let f=fib 7;in add f f;"
            + "fib n=if(less n 2)n(add(fib(sub n 1))(fib(sub n 2)));");
        SHEET.due("step(2000)", x.step(2000), 366);
        SHEET.due("state(): FULL of nodes", x.state(), 3);
        int used = x.count(0);
        SHEET.due("sweep()", x.sweep(), 345);
        SHEET.due("count(0)", x.count(0), used - 345);
        SHEET.due("count(1)", x.count(1), used - 345);
        SHEET.due("step(2000): it goes on", x.step(2000), 345);
        SHEET.due("back(345)", x.back(345), 366);
        SHEET.due("count(0)", x.count(0), used - 345);
        SHEET.due("back(1)", x.back(1), 365);
        SHEET.due("step(9): FULL again, not swept", x.step(9), 1);
        SHEET.due("count(0)", x.count(0), used);
    }

    private static void sweepRefuses() {
        SHEET.sentence("Promise 12: sweep", "what kept ones have. NO.");
        NeedSteps x = new NeedSteps();
        SHEET.due("sweep() of a new object", x.sweep(), NeedSteps.NO);
        Sheet.feed(x, "main=add 1 2;");
        x.read();
        x.step(9);
        x.read();
        SHEET.due("sweep() behind a FAULT", x.sweep(), NeedSteps.NO);
    }

    private static void counts() {
        SHEET.sentence("Promise 13: count", "How many: 0 nodes that are not free, 1 kept ones, 2 places on the STACK, 3 STACKS on the DUMP, 4 STEPS done, 5 nodes MADE so far (those of the beginning, too), 6 the most that were not free at once.");
        NeedSteps x = Sheet.program(SEQ);
        due(x, "at first", 2, 2, 1, 0, 0, 2, 2);
        x.step(1);
        due(x, "behind 1", 12, 12, 1, 0, 1, 12, 12);
        x.step(2);
        due(x, "behind 3", 12, 12, 3, 0, 3, 12, 12);
        x.step(4);
        due(x, "behind 7", 12, 8, 1, 1, 7, 12, 12);
        SHEET.due("sweep()", x.sweep(), 4);
        due(x, "swept", 8, 8, 1, 1, 7, 12, 12);
        x.step(5);
        due(x, "behind 12", 11, 8, 1, 0, 12, 15, 12);
        x.sweep();
        due(x, "swept again", 8, 8, 1, 0, 12, 15, 12);
    }

    private static void countsAtEdges() {
        SHEET.sentence("Promise 13: count", "5 nodes MADE so far (those of the beginning, too), 6 the most that were not free at once.");
        StringBuilder twenty = new StringBuilder("main=1;");
        for (int d = 1; d < 20; d++) {
            twenty.append('f').append(d).append("=2;");
        }
        due(Sheet.program(twenty.toString()), "of twenty", 20, 20, 1, 0, 0, 20, 20);
        due(Sheet.program("main=1;"), "of one", 1, 1, 1, 0, 0, 1, 1);
        NeedSteps none = Sheet.program("main=main;");
        none.step(9);
        due(none, "none is MADE", 1, 1, 1, 0, 9, 1, 1);
        NeedSteps full = Sheet.program("main=loop 0;loop n=loop n;");
        full.step(2000);
        due(full, "of 400", 400, 400, 2, 0, 794, 400, 400);
        NeedSteps places = Sheet.program("main=let x=x 1;in x;");
        places.step(2000);
        due(places, "of 600 places", 4, 4, 600, 0, 1200, 4, 4);
        NeedSteps need = Sheet.program("main=g head;g h=" + "h(".repeat(11) + "h(g h)" + ")".repeat(11) + ";");
        need.step(2000);
        SHEET.due("count(2)", need.count(2), 2);
        SHEET.due("count(3)", need.count(3), 299);
        // above 400 were MADE, never more than 400 at once
        NeedSteps more = Sheet.program("main=let f=fib 7;in add f f;"
            + "fib n=if(less n 2)n(add(fib(sub n 1))(fib(sub n 2)));");
        more.step(2000);
        int most = more.count(6);
        SHEET.due("count(6) is count(0) so far", more.count(0), most);
        more.sweep();
        SHEET.due("count(6) behind sweep()", more.count(6), most);
        more.step(20);
        SHEET.due("count(6): no more at once", more.count(6), most);
        more.step(2000);
        SHEET.holds("count(5): more than 400", more.count(5) > 400);
        SHEET.holds("count(6): at most 400", more.count(6) <= 400 && more.count(6) >= most);
    }

    private static void countRefuses() {
        SHEET.sentence("Promise 13: count", "at once. BAD; NO.");
        NeedSteps x = Sheet.program(SEQ);
        SHEET.due("count(-1)", x.count(-1), NeedSteps.BAD);
        SHEET.due("count(7)", x.count(7), NeedSteps.BAD);
        for (int what : FAR) {
            SHEET.due("count(" + what + ")", x.count(what), NeedSteps.BAD);
        }
        NeedSteps none = new NeedSteps();
        for (int what = -1; what <= 7; what++) {
            SHEET.due("count(" + what + ") without a program", none.count(what), NeedSteps.NO);
        }
    }

    private static void due(NeedSteps x, String when, int... want) {
        for (int what = 0; what < want.length; what++) {
            SHEET.due("count(" + what + ") " + when, x.count(what), want[what]);
        }
    }
}
