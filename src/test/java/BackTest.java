/** Promises 10 to 13: stopAt, back, sweep, count. */
public final class BackTest {
    private static final Sheet SHEET = new Sheet("back");

    /**
     * Nodes: 2 seq; 3 add, 4 of 1, 5 of 2, 6 and 7 APPLYS; 8 of 5, 9 APPLY of f; 10 and 11 APPLYS.
     */
    private static final String SEQ = "main=seq(add 1 2)(f 5);f x=add x x;";

    public static void main(String[] args) {
        stops();
        stopsOnlyWhereItIsMade();
        steppingBack();
        sweptByThen();
        stateBehindSweepAndBack();
        counts();
        SHEET.end();
    }

    private static void stops() {
        NeedSteps x = Sheet.program("main=f 3;f n=if n(f(sub n 1))7;");
        SHEET.due("stopAt(-2)", x.stopAt(-2), NeedSteps.BAD);
        SHEET.due("stopAt(2)", x.stopAt(2), NeedSteps.BAD);
        SHEET.due("stopAt(most)", x.stopAt(Integer.MAX_VALUE), NeedSteps.BAD);
        SHEET.due("stopAt(-1)", x.stopAt(-1), -1);
        SHEET.due("stopAt(0)", x.stopAt(0), -1);
        SHEET.due("stopAt(1)", x.stopAt(1), 0);
        SHEET.due("stopAt(1)", x.stopAt(1), 1);
        SHEET.due("step(2000): main, APPLY", x.step(2000), 2);
        SHEET.due("state() at a stop", x.state(), 0);
        SHEET.due("next()", x.next(), 2);
        SHEET.due("profile(1, 0)", x.profile(1, 0), 0);
        // MADE; three APPLYS; if is done; POINTER; APPLY
        SHEET.due("step(2000): the first STEP is not stopped", x.step(2000), 7);
        SHEET.due("profile(1, 0)", x.profile(1, 0), 1);
        SHEET.due("step(1)", x.step(1), 1);
        SHEET.due("profile(1, 0)", x.profile(1, 0), 2);
        SHEET.due("back(0)", x.back(0), 10);
        SHEET.due("back(8)", x.back(8), 2);
        SHEET.due("stopAt(-1): it stays behind back()", x.stopAt(-1), 1);
        x.step(2000);
        SHEET.due("rest()", x.rest(), 0);
        SHEET.due("profile(1, 0)", x.profile(1, 0), 4);
        x.stopAt(1);
        Sheet.feed(x, "main=f;f=1;");
        x.read();
        SHEET.due("stopAt(-1) of a new program", x.stopAt(-1), -1);
    }

    private static void stopsOnlyWhereItIsMade() {
        NeedSteps x = Sheet.program("main=seq f 5;f a=a;");
        x.stopAt(1);
        x.step(2000);
        SHEET.due("state(): f is a VALUE, not MADE", x.state(), 1);
        NeedSteps y = Sheet.program("main=f;f a=a;");
        y.stopAt(1);
        SHEET.due("step(9)", y.step(9), 1);
        SHEET.due("state(): f is AT REST", y.state(), 1);
        NeedSteps z = Sheet.program("main=1;");
        z.stopAt(0);
        SHEET.due("step(9): but by the first", z.step(9), 1);
    }

    private static void steppingBack() {
        NeedSteps x = Sheet.program("main=add(add 1 2)3;");
        SHEET.due("back(0) at first", x.back(0), 0);
        SHEET.due("back(1) at first", x.back(1), NeedSteps.BAD);
        x.step(2000);
        SHEET.due("back(-1)", x.back(-1), NeedSteps.BAD);
        SHEET.due("back(least)", x.back(Integer.MIN_VALUE), NeedSteps.BAD);
        SHEET.due("back(most)", x.back(Integer.MAX_VALUE), NeedSteps.BAD);
        SHEET.due("back(10)", x.back(10), NeedSteps.BAD);
        SHEET.due("state() behind BAD", x.state(), 1);
        SHEET.due("back(4)", x.back(4), 5);
        SHEET.due("top(0)", x.top(0), 5);
        SHEET.due("count(3)", x.count(3), 1);
        SHEET.due("node(6, 0): an APPLY again", x.node(6, 0), 1);
        SHEET.due("back(4)", x.back(4), 1);
        SHEET.due("back(2): fewer were done", x.back(2), NeedSteps.BAD);
        SHEET.due("back(1)", x.back(1), 0);
        SHEET.due("count(0)", x.count(0), 1);
        SHEET.due("count(5)", x.count(5), 1);
        SHEET.due("count(6)", x.count(6), 1);
        SHEET.due("node(0, 0): a FUNCTION again", x.node(0, 0), 2);
        SHEET.due("node(1, 0): not yet MADE", x.node(1, 0), NeedSteps.BAD);
        SHEET.due("profile(0, 0)", x.profile(0, 0), 0);
        SHEET.due("profile(0, 1)", x.profile(0, 1), 0);
        SHEET.due("step(2000)", x.step(2000), 9);
        SHEET.due("the NUMBER", x.node(9, 1), 6);
    }

    private static void sweptByThen() {
        NeedSteps x = Sheet.program(SEQ);
        SHEET.due("step(8)", x.step(8), 8);
        SHEET.due("sweep(): add, 1, 2 and an APPLY", x.sweep(), 4);
        SHEET.due("node(6, 0): free", x.node(6, 0), NeedSteps.BAD);
        SHEET.due("node(7, 1): kept", x.node(7, 1), 3);
        SHEET.due("step(4)", x.step(4), 4);
        SHEET.due("top(0): the least free numbers", x.top(0), 5);
        SHEET.due("node(3, 0): add", x.node(3, 0), 3);
        SHEET.due("node(3, 3): made by f", x.node(3, 3), 1);
        SHEET.due("count(0)", x.count(0), 11);
        SHEET.due("count(5)", x.count(5), 15);
        SHEET.due("count(6)", x.count(6), 12);
        SHEET.due("back(1)", x.back(1), 11);
        SHEET.due("node(3, 0): swept before", x.node(3, 0), NeedSteps.BAD);
        SHEET.due("back(3)", x.back(3), 8);
        SHEET.due("count(0): swept by then", x.count(0), 8);
        SHEET.due("back(0)", x.back(0), 8);
        SHEET.due("count(0): still swept", x.count(0), 8);
        SHEET.due("back(1)", x.back(1), 7);
        SHEET.due("count(0): not swept by then", x.count(0), 12);
        SHEET.due("node(3, 3): made by main", x.node(3, 3), 0);
        SHEET.due("step(1)", x.step(1), 1);
        SHEET.due("count(0): the sweep is gone", x.count(0), 12);
        SHEET.due("step(4)", x.step(4), 4);
        SHEET.due("top(0)", x.top(0), 14);
        SHEET.due("back(4)", x.back(4), 8);
        SHEET.due("count(0)", x.count(0), 12);
        x.sweep();
        Sheet.feed(x, SEQ);
        x.read();
        x.step(9);
        x.back(1);
        SHEET.due("count(0): a new program has no sweeps", x.count(0), 12);
    }

    private static void stateBehindSweepAndBack() {
        NeedSteps x = Sheet.program("main=quo 1 0;");
        x.step(2000);
        SHEET.due("state()", x.state(), 2);
        SHEET.due("error()", x.error(), 3);
        SHEET.due("sweep()", x.sweep(), 0);
        SHEET.due("state() behind sweep()", x.state(), 0);
        SHEET.due("error() behind sweep()", x.error(), 0);
        x.step(1);
        SHEET.due("error()", x.error(), 3);
        SHEET.due("back(0)", x.back(0), 3);
        SHEET.due("state() behind back()", x.state(), 0);
        SHEET.due("error() behind back()", x.error(), 0);
        SHEET.due("next()", x.next(), 7);
        NeedSteps y = Sheet.program("main=1;");
        y.step(9);
        SHEET.due("rest()", y.rest(), 0);
        y.sweep();
        SHEET.due("rest() behind sweep()", y.rest(), NeedSteps.NO);
    }

    private static void counts() {
        NeedSteps x = Sheet.program(SEQ);
        due(x, "at first", 2, 2, 1, 0, 0, 2, 2);
        x.step(1);
        due(x, "behind 1", 12, 12, 1, 0, 1, 12, 12);
        x.step(6);
        due(x, "behind 7", 12, 8, 1, 1, 7, 12, 12);
        SHEET.due("sweep()", x.sweep(), 4);
        due(x, "swept", 8, 8, 1, 1, 7, 12, 12);
        SHEET.due("sweep() again", x.sweep(), 0);
        SHEET.due("count(-1)", x.count(-1), NeedSteps.BAD);
        SHEET.due("count(7)", x.count(7), NeedSteps.BAD);
        // a FUNCTION that nothing points to is kept: it is the first node of a DEFINITION
        NeedSteps y = Sheet.program("f=1;g a=a;main=2;");
        y.step(9);
        SHEET.due("sweep()", y.sweep(), 0);
        SHEET.due("count(1)", y.count(1), 4);
    }

    private static void due(NeedSteps x, String when, int... want) {
        for (int what = 0; what < want.length; what++) {
            SHEET.due("count(" + what + ") " + when, x.count(what), want[what]);
        }
    }
}
