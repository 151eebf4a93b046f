/** All that an object tells, as one text, to be held against another; the object stays as it is. */
final class Picture {
    /** So two pictures and what is between them stay under the 512 calls of an object. */
    private static final int NODES = 14;

    private Picture() {
    }

    static String of(NeedSteps x) {
        int stop = x.stopAt(-1);
        x.stopAt(stop);
        return "stop " + stop + " state " + x.state() + " error " + x.error() + " rest " + x.rest()
            + withoutLatest(x);
    }

    /** Without what tells of the latest STEP that was tried, and the stop. */
    static String withoutLatest(NeedSteps x) {
        StringBuilder text = new StringBuilder(" fault " + x.fault() + " next " + x.next() + " share ");
        try {
            text.append(x.share());
        } catch (ArithmeticException e) {
            text.append("none");
        }
        text.append(" counts");
        for (int what = 0; what <= 6; what++) {
            text.append(' ').append(x.count(what));
        }
        for (int node = 0; node < NODES; node++) {
            text.append(" node ").append(node).append(':');
            for (int what = 0; what <= 5; what++) {
                text.append(' ').append(x.node(node, what));
            }
            text.append(" way ").append(x.way(node, -1));
        }
        for (int i = 0; i < 4; i++) {
            text.append(" top ").append(x.top(i)).append(" why ").append(x.why(i));
            text.append(" profile ").append(x.profile(i, 0)).append(' ').append(x.profile(i, 1));
        }
        return text.toString();
    }
}
