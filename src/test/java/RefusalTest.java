/** What the Terms say of REFUSALS, and the 512 calls of an object. */
public final class RefusalTest {
    private static final Sheet SHEET = new Sheet("refusals");
    private static final int LEAST = Integer.MIN_VALUE, MOST = Integer.MAX_VALUE;

    public static void main(String[] args) {
        nothingChanges();
        fullChangesNothing();
        noIsAskedFirst();
        noAsTold();
        badNumbers();
        theNumbersThemselves();
        calls512();
        answersTo512();
        SHEET.end();
    }

    /** In every state: at first, with a DUMP, AT REST, with an ERROR, FULL, stopped, swept. */
    private static void nothingChanges() {
        SHEET.sentence("Terms", "REFUSALS change nothing but THE TAPE (as told):");
        String[] texts = {"main=add 1 2;", "main=add(add 1 2)3;", "main=add 1 2;", "main=1 2;",
            "main=let x=x 1;in x;", "main=f 1;f a=a;", "main=seq(add 1 2)(f 5);f x=add x x;"};
        int[] steps = {0, 5, 9, 9, 2000, 9, 8};
        for (int i = 0; i < texts.length; i++) {
            NeedSteps x = Sheet.program(texts[i]);
            x.stopAt(i == 5 ? 1 : -1);
            if (steps[i] > 0) {
                x.step(steps[i]);
            }
            if (i == 6) {
                x.sweep();
            }
            String before = Picture.of(x);
            allBad(x);
            SHEET.same("what there is of " + texts[i], Picture.of(x), before);
        }
    }

    private static void allBad(NeedSteps x) {
        int bad = NeedSteps.BAD;
        for (int n : new int[] {LEAST, -2, 5000, MOST}) {
            SHEET.due("cut(" + n + ")", x.cut(n), bad);
            SHEET.due("step(" + n + ")", x.step(n), bad);
            SHEET.due("stopAt(" + n + ")", x.stopAt(n), bad);
            SHEET.due("back(" + n + ")", x.back(n), bad);
            SHEET.due("count(" + n + ")", x.count(n), bad);
            SHEET.due("node(" + n + ", 0)", x.node(n, 0), bad);
            SHEET.due("node(0, " + n + ")", x.node(0, n), bad);
            SHEET.due("top(" + n + ")", x.top(n), bad);
            SHEET.due("why(" + n + ")", x.why(n), bad);
            SHEET.due("way(" + n + ", 0)", x.way(n, 0), bad);
            SHEET.due("way(0, " + n + ")", x.way(0, n), bad);
            SHEET.due("profile(" + n + ", 0)", x.profile(n, 0), bad);
            SHEET.due("profile(0, " + n + ")", x.profile(0, n), bad);
        }
    }

    private static void fullChangesNothing() {
        SHEET.sentence("Terms", "REFUSALS change nothing but THE TAPE (as told):");
        NeedSteps x = Sheet.program("main=add(add 1 2)3;");
        x.step(5);
        Sheet.feed(x, " ".repeat(781));
        String before = Picture.of(x);
        SHEET.due("feed", x.feed(-1, -1, -1, -1, -1), NeedSteps.FULL);
        SHEET.due("cut(782)", x.cut(782), NeedSteps.BAD);
        SHEET.same("what there is", Picture.of(x), before);
        SHEET.due("cut(781)", x.cut(781), 0);
        // of a FAULT THE TAPE is told to be empty then
        SHEET.due("read()", x.read(), -791);
        SHEET.due("cut(1)", x.cut(1), NeedSteps.BAD);
        // NO changes nothing: THE TAPE stays
        NeedSteps none = new NeedSteps();
        Sheet.feed(none, "main=12;");
        Refused.allAnswerNo(SHEET, none);
        SHEET.due("cut(8)", none.cut(8), 0);
        SHEET.due("fault()", none.fault(), 0);
        SHEET.due("read()", none.read(), 1);
    }

    private static void noIsAskedFirst() {
        SHEET.sentence("Terms", "NO (-3): there is no program (asked first of all), or as told;");
        Refused.allAnswerNo(SHEET, new NeedSteps());
        NeedSteps faulty = new NeedSteps();
        Sheet.feed(faulty, "main=;");
        faulty.read();
        Refused.allAnswerNo(SHEET, faulty);
        NeedSteps gone = Sheet.program("main=1;");
        gone.step(9);
        gone.read();
        Refused.allAnswerNo(SHEET, gone);
    }

    /** rest() alone tells another reason of its own; -3 is also what node() says of some. */
    private static void noAsTold() {
        SHEET.sentence("Terms", "NO (-3): there is no program (asked first of all), or as told;");
        NeedSteps x = Sheet.program("main=add 1 2;");
        SHEET.due("rest() in state 0", x.rest(), -3);
        SHEET.due("node(0, 3): the beginning", x.node(0, 3), -3);
        SHEET.due("node(0, 2): no second node", x.node(0, 2), -3);
    }

    /** Of two arguments either may be outside. */
    private static void badNumbers() {
        SHEET.sentence("Terms", "BAD (-1) a number is none, or outside what is told; FULL (-2).");
        NeedSteps x = Sheet.program("main=add(f 1)2;f a=a;");
        x.step(4);
        int[][] nodes = {{-1, 0}, {0, -1}, {0, 6}, {400, 5}, {-1, -1}, {400, 6}, {LEAST, MOST}, {MOST, LEAST}};
        for (int[] two : nodes) {
            SHEET.due("node(" + two[0] + ", " + two[1] + ")", x.node(two[0], two[1]), NeedSteps.BAD);
        }
        int[][] ways = {{-1, -1}, {-1, 0}, {0, -2}, {0, 1}, {400, -1}, {400, 0}, {LEAST, MOST}, {MOST, LEAST}};
        for (int[] two : ways) {
            SHEET.due("way(" + two[0] + ", " + two[1] + ")", x.way(two[0], two[1]), NeedSteps.BAD);
        }
        int[][] profiles = {{-1, 0}, {2, 0}, {0, -1}, {0, 2}, {1, 2}, {2, 1}, {LEAST, MOST}, {MOST, LEAST}};
        for (int[] two : profiles) {
            SHEET.due("profile(" + two[0] + ", " + two[1] + ")", x.profile(two[0], two[1]), NeedSteps.BAD);
        }
    }

    private static void theNumbersThemselves() {
        SHEET.sentence("The public face", "public static final int BAD = -1, FULL = -2, NO = -3;");
        SHEET.due("BAD", NeedSteps.BAD, -1);
        SHEET.due("FULL", NeedSteps.FULL, -2);
        SHEET.due("NO", NeedSteps.NO, -3);
        SHEET.due("cut(-1)", new NeedSteps().cut(-1), -1);
        NeedSteps x = new NeedSteps();
        Sheet.feed(x, " ".repeat(800));
        SHEET.due("feed", x.feed(0, 0, 0, 0, 0), -2);
        SHEET.due("state()", x.state(), -3);
    }

    /** 512 dear calls: each goes back to the beginning and does all STEPS again. */
    private static void calls512() {
        SHEET.sentence("What it is", "An object is used for at most 512 calls after it has been made; what later calls answer is free.");
        NeedSteps x = new NeedSteps();
        x.feed(0x6d61696e, 0x3d6d6169, 0x6e3b2020, 0x20202020, 0x20202020);
        x.read();
        int calls = 2;
        for (; calls + 4 <= 508; calls += 4) {
            int steps = x.count(4);
            int more = x.step(2000);
            SHEET.due("step(2000) at call " + calls, more, Math.min(2000, 5000 - steps));
            SHEET.due("sweep() at call " + calls, x.sweep(), 0);
            SHEET.due("back() at call " + calls, x.back(steps + more > 4000 ? 4000 : 0),
                steps + more > 4000 ? steps + more - 4000 : steps + more);
        }
        for (; calls < 512; calls++) {
            SHEET.due("node(0, 0) at call " + calls, x.node(0, 0), 6);
        }
    }

    /** Programs one behind the other in one object: none leaves anything to the next. */
    private static void answersTo512() {
        SHEET.sentence("What it is", "An object is used for at most 512 calls after it has been made; what later calls answer is free.");
        NeedSteps x = new NeedSteps();
        for (int round = 0; round < 64; round++) {
            int digit = '0' + round % 10;
            // "main=add 1 d;" and blanks: seven calls a round
            x.feed(0x6d61696e, 0x3d616464, 0x20312000 | digit, 0x3b202020, 0x20202020);
            SHEET.due("read() in round " + round, x.read(), 1);
            SHEET.due("step(2000) in round " + round, x.step(2000), 4);
            SHEET.due("sweep() in round " + round, x.sweep(), 4);
            SHEET.due("node(5, 1) in round " + round, x.node(5, 1), 1 + round % 10);
            SHEET.due("back(1) in round " + round, x.back(1), 3);
            SHEET.due("count(0) in round " + round, x.count(0), 6);
            SHEET.due("next() in round " + round, x.next(), 4);
        }
    }
}
