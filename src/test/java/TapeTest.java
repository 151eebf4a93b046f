/** Promises 1 to 3: a new object, feed, cut. */
public final class TapeTest {
    private static final Sheet SHEET = new Sheet("tape");

    public static void main(String[] args) {
        newObject();
        feeding();
        cutting();
        refusalsOfRead();
        SHEET.end();
    }

    private static void newObject() {
        NeedSteps x = new NeedSteps();
        SHEET.due("fault()", x.fault(), 0);
        SHEET.due("cut(0)", x.cut(0), 0);
        SHEET.due("cut(1)", x.cut(1), NeedSteps.BAD);
        withoutProgram(x);
        SHEET.due("read()", x.read(), -10);
        SHEET.due("fault()", x.fault(), 2);
        withoutProgram(x);
    }

    /** NO is asked first of all: ahead of arguments that would be BAD. */
    private static void withoutProgram(NeedSteps x) {
        int no = NeedSteps.NO;
        for (int n = -4; n < 5; n++) {
            SHEET.due("step", x.step(n), no);
            SHEET.due("stopAt", x.stopAt(n), no);
            SHEET.due("back", x.back(n), no);
            SHEET.due("count", x.count(n), no);
            SHEET.due("node", x.node(n, n), no);
            SHEET.due("top", x.top(n), no);
            SHEET.due("why", x.why(n), no);
            SHEET.due("way", x.way(n, n), no);
            SHEET.due("profile", x.profile(n, n), no);
        }
        SHEET.due("state", x.state(), no);
        SHEET.due("error", x.error(), no);
        SHEET.due("next", x.next(), no);
        SHEET.due("sweep", x.sweep(), no);
        SHEET.due("rest", x.rest(), no);
        boolean thrown = false;
        try {
            x.share();
        } catch (ArithmeticException e) {
            thrown = true;
        }
        SHEET.holds("share() throws", thrown);
    }

    private static void feeding() {
        NeedSteps x = new NeedSteps();
        for (int n = 1; n <= 40; n++) {
            SHEET.due("feed " + n, x.feed(0x6d61696e, 0x3d313b20, 0x20202020, n, -n), 20 * n);
        }
        SHEET.due("the 41st feed", x.feed(1, 2, 3, 4, 5), NeedSteps.FULL);
        SHEET.due("cut(800)", x.cut(800), 0);
        SHEET.due("cut(781)", x.cut(781), 19);
        SHEET.due("feed above 800", x.feed(1, 2, 3, 4, 5), NeedSteps.FULL);
        SHEET.due("cut(780)", x.cut(780), 1);
        SHEET.due("feed up to 800", x.feed(1, 2, 3, 4, 5), 800);
        SHEET.due("cut(7)", x.cut(7), 793);
        SHEET.due("read(), the highest byte first", x.read(), 1);
        SHEET.due("an empty tape behind it", x.cut(0), 0);
        // bytes of negative numbers are none of a token
        x.feed(0x6d61696e, 0x3d31ff3b, -1, -1, -1);
        SHEET.due("read()", x.read(), -16);
        SHEET.due("fault()", x.fault(), 1);
    }

    private static void cutting() {
        NeedSteps x = new NeedSteps();
        Sheet.feed(x, "main=12;");
        SHEET.due("cut(-1)", x.cut(-1), NeedSteps.BAD);
        SHEET.due("cut(least)", x.cut(Integer.MIN_VALUE), NeedSteps.BAD);
        SHEET.due("cut(9)", x.cut(9), NeedSteps.BAD);
        SHEET.due("cut(most)", x.cut(Integer.MAX_VALUE), NeedSteps.BAD);
        SHEET.due("cut(8)", x.cut(8), 0);
        SHEET.due("cut(6)", x.cut(6), 2);
        Sheet.feed(x, ";");
        SHEET.due("read()", x.read(), 1);
        x.step(9);
        SHEET.due("the NUMBER", x.node(x.top(0), 1), 1);
    }

    /** THE TAPE is empty behind read(), with a FAULT too, and the program of before is gone. */
    private static void refusalsOfRead() {
        NeedSteps x = Sheet.program("main=1;");
        SHEET.due("state()", x.state(), 0);
        Sheet.feed(x, "main=1; x");
        SHEET.due("still a program", x.state(), 0);
        SHEET.due("read()", x.read(), -19);
        SHEET.due("cut(0)", x.cut(0), 0);
        SHEET.due("cut(1)", x.cut(1), NeedSteps.BAD);
        withoutProgram(x);
        Sheet.feed(x, "main=1;");
        SHEET.due("read()", x.read(), 1);
        SHEET.due("fault()", x.fault(), 0);
    }
}
