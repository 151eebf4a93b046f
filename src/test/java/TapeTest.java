/** Promises 1 to 3: a new object, feed, cut; and what the Terms say of THE TAPE. */
public final class TapeTest {
    private static final Sheet SHEET = new Sheet("tape");
    private static final int[] FAR = {Integer.MIN_VALUE, Integer.MIN_VALUE + 1, Integer.MAX_VALUE - 1,
        Integer.MAX_VALUE};

    public static void main(String[] args) {
        newObject();
        atMost800();
        placesFrom0();
        highestByteFirst();
        comesBehind();
        feedIsFull();
        fullChangesNothing();
        keepsTheFirst();
        cutIsBad();
        badChangesNothing();
        theProgramStays();
        SHEET.end();
    }

    private static void newObject() {
        SHEET.sentence("Promise 1: A new object", "Nothing on THE TAPE, no program.");
        SHEET.due("cut(0) of a new object", new NeedSteps().cut(0), 0);
        SHEET.due("cut(1) of a new object", new NeedSteps().cut(1), NeedSteps.BAD);
        SHEET.due("feed() of a new object", new NeedSteps().feed(0, 0, 0, 0, 0), 20);
        SHEET.due("read() of a new object", new NeedSteps().read(), -10);
        SHEET.due("fault() of a new object", new NeedSteps().fault(), 0);
        Refused.allAnswerNo(SHEET, new NeedSteps());
        NeedSteps one = Sheet.program("main=1;");
        SHEET.due("state() of one object", one.state(), 0);
        SHEET.due("state() of another, new one", new NeedSteps().state(), NeedSteps.NO);
    }

    private static void atMost800() {
        SHEET.sentence("Terms", "THE TAPE has at most 800 bytes;");
        NeedSteps x = new NeedSteps();
        Sheet.feed(x, "main=" + " ".repeat(793) + "7;");
        SHEET.due("cut(801)", x.cut(801), NeedSteps.BAD);
        SHEET.due("cut(800)", x.cut(800), 0);
        SHEET.due("read() of 800 bytes", x.read(), 1);
        x.step(9);
        SHEET.due("the NUMBER from the last bytes", x.node(x.top(0), 1), 7);
        // as dense as can be: every byte of them is read, and every node is made
        String group = "(1(1)1(1)1(1)1(1)1(1))";
        String text = "main=z;b=" + group.repeat(10) + ";c=" + group.repeat(10) + ";d=" + group.repeat(5)
            + ";z=" + group.repeat(10) + ";";
        NeedSteps dense = new NeedSteps();
        Sheet.feed(dense, text + " ".repeat(800 - text.length()));
        SHEET.due("cut(800)", dense.cut(800), 0);
        SHEET.due("read() of 800 bytes", dense.read(), 5);
        SHEET.due("step(2)", dense.step(2), 2);
        SHEET.due("profile(4, 1): 10 times 19, and 9", dense.profile(4, 1), 199);
        SHEET.due("count(0)", dense.count(0), 204);
    }

    private static void placesFrom0() {
        SHEET.sentence("Terms", "places on it are counted from 0.");
        SHEET.fault("+", 1, 0);
        SHEET.fault(" +", 1, 1);
        SHEET.fault(" ".repeat(799) + "+", 1, 799);
        SHEET.fault(" ".repeat(800), 2, 800);
    }

    private static void highestByteFirst() {
        SHEET.sentence("Promise 2: feed",
            "Five numbers, the highest byte of each first, come behind THE TAPE: how many it has.");
        NeedSteps x = new NeedSteps();
        SHEET.due("feed", x.feed(0x6d61696e, 0x3d313233, 0x34353637, 0x383b2020, 0x20202020), 20);
        SHEET.due("read()", x.read(), 1);
        x.step(9);
        SHEET.due("the NUMBER", x.node(x.top(0), 1), 12345678);
        // numbers below 0 and above 2 to the 31st less 1 by a byte: four bytes each, none of them a TOKEN's
        int[] odd = {Integer.MIN_VALUE, -1, 0, 1, Integer.MAX_VALUE};
        for (int a : odd) {
            NeedSteps y = new NeedSteps();
            SHEET.due("feed of " + a, y.feed(a, a, a, a, a), 20);
            SHEET.due("read()", y.read(), -10);
            SHEET.due("fault()", y.fault(), 1);
        }
        for (int place = 0; place < 20; place++) {
            bytesPlace(place);
        }
    }

    /** Blanks but for one byte, of 255. */
    private static void bytesPlace(int place) {
        int[] numbers = new int[5];
        for (int i = 0; i < 20; i++) {
            numbers[i / 4] = numbers[i / 4] << 8 | (i == place ? 255 : 32);
        }
        NeedSteps x = new NeedSteps();
        x.feed(numbers[0], numbers[1], numbers[2], numbers[3], numbers[4]);
        SHEET.due("read() with 255 at " + place, x.read(), -10 - place);
        SHEET.due("fault() with 255 at " + place, x.fault(), 1);
    }

    private static void comesBehind() {
        SHEET.sentence("Promise 2: feed",
            "Five numbers, the highest byte of each first, come behind THE TAPE: how many it has.");
        NeedSteps x = new NeedSteps();
        Sheet.feed(x, "main=");
        SHEET.due("feed behind 5 bytes", x.feed(0x34353b20, 0x20202020, 0x20202020, 0x20202020, 0x20202020), 25);
        SHEET.due("read()", x.read(), 1);
        x.step(9);
        SHEET.due("the NUMBER", x.node(x.top(0), 1), 45);
        SHEET.due("feed behind read()", x.feed(1, 2, 3, 4, 5), 20);
    }

    private static void feedIsFull() {
        SHEET.sentence("Promise 2: feed", "FULL: above 800.");
        NeedSteps x = new NeedSteps();
        for (int n = 1; n <= 40; n++) {
            SHEET.due("feed " + n, x.feed(0x6d61696e, 0x3d313b20, 0x20202020, n, -n), 20 * n);
        }
        SHEET.due("the 41st feed", x.feed(1, 2, 3, 4, 5), NeedSteps.FULL);
        SHEET.due("the 42nd feed", x.feed(0, 0, 0, 0, 0), NeedSteps.FULL);
        SHEET.due("cut(799)", x.cut(799), 1);
        SHEET.due("feed: 819", x.feed(1, 2, 3, 4, 5), NeedSteps.FULL);
        SHEET.due("cut(781)", x.cut(781), 18);
        SHEET.due("feed: 801", x.feed(1, 2, 3, 4, 5), NeedSteps.FULL);
        SHEET.due("cut(780)", x.cut(780), 1);
        SHEET.due("feed: just 800", x.feed(1, 2, 3, 4, 5), 800);
        SHEET.due("cut(779)", x.cut(779), 21);
        SHEET.due("feed: 799", x.feed(1, 2, 3, 4, 5), 799);
    }

    private static void fullChangesNothing() {
        SHEET.sentence("Promise 2: feed", "FULL: above 800.");
        NeedSteps x = new NeedSteps();
        Sheet.feed(x, "main=12;" + " ".repeat(773));
        SHEET.due("feed: 801", x.feed(-1, -1, -1, -1, -1), NeedSteps.FULL);
        SHEET.due("cut(782): no byte came", x.cut(782), NeedSteps.BAD);
        SHEET.due("cut(781): no byte went", x.cut(781), 0);
        SHEET.due("read(): no other byte", x.read(), 1);
    }

    private static void keepsTheFirst() {
        SHEET.sentence("Promise 3: cut", "THE TAPE keeps its first n bytes: how many went.");
        NeedSteps x = new NeedSteps();
        Sheet.feed(x, "main=12;");
        SHEET.due("cut(8): all stay", x.cut(8), 0);
        SHEET.due("cut(6)", x.cut(6), 2);
        SHEET.due("cut(6): none went", x.cut(6), 0);
        Sheet.feed(x, ";");
        SHEET.due("read()", x.read(), 1);
        x.step(9);
        SHEET.due("the NUMBER: the first ones stayed", x.node(x.top(0), 1), 1);
        SHEET.due("cut(0) of nothing", x.cut(0), 0);
        Sheet.feed(x, "main=12;");
        SHEET.due("cut(1)", x.cut(1), 7);
        SHEET.due("cut(0): all go", x.cut(0), 1);
        SHEET.due("cut(0)", x.cut(0), 0);
        NeedSteps full = new NeedSteps();
        Sheet.feed(full, " ".repeat(800));
        SHEET.due("cut(0) of 800", full.cut(0), 800);
    }

    private static void cutIsBad() {
        SHEET.sentence("Promise 3: cut", "BAD.");
        NeedSteps x = new NeedSteps();
        SHEET.due("cut(-1) of nothing", x.cut(-1), NeedSteps.BAD);
        SHEET.due("cut(1) of nothing", x.cut(1), NeedSteps.BAD);
        Sheet.feed(x, "main=12;");
        SHEET.due("cut(-1)", x.cut(-1), NeedSteps.BAD);
        SHEET.due("cut(9) of 8", x.cut(9), NeedSteps.BAD);
        SHEET.due("cut(800) of 8", x.cut(800), NeedSteps.BAD);
        for (int n : FAR) {
            SHEET.due("cut(" + n + ")", x.cut(n), NeedSteps.BAD);
        }
        SHEET.due("cut(7)", x.cut(7), 1);
        SHEET.due("cut(8): it went before", x.cut(8), NeedSteps.BAD);
        x.read();
        SHEET.due("cut(1): read() took all", x.cut(1), NeedSteps.BAD);
    }

    private static void badChangesNothing() {
        SHEET.sentence("Promise 3: cut", "BAD.");
        NeedSteps x = new NeedSteps();
        Sheet.feed(x, "main=12;");
        x.cut(-1);
        x.cut(9);
        SHEET.due("cut(8): all are there", x.cut(8), 0);
        SHEET.due("feed: behind them", x.feed(0x20202020, 0x20202020, 0x20202020, 0x20202020, 0x20202020), 28);
        SHEET.due("read()", x.read(), 1);
        x.step(9);
        SHEET.due("the NUMBER", x.node(x.top(0), 1), 12);
    }

    /** What comes onto THE TAPE is no program before read(). */
    private static void theProgramStays() {
        SHEET.sentence("Promise 4: read",
            "THE TAPE, which is empty then, is the program, as it begins: how many DEFINITIONS.");
        NeedSteps x = Sheet.program("main=add 1 2;");
        x.step(4);
        String before = Picture.of(x);
        Sheet.feed(x, "main=nil;");
        x.cut(3);
        SHEET.same("the program behind feed and cut", Picture.of(x), before);
    }
}
