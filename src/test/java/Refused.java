/** Refusals that more than one test asks for. */
final class Refused {
    private static final int[] NUMBERS = {Integer.MIN_VALUE, -4, -3, -2, -1, 0, 1, 2, 6, 7, 400, 2000,
        2001, Integer.MAX_VALUE};

    private Refused() {
    }

    /** There is no program: NO is asked first of all, ahead of arguments that would be BAD. */
    static void allAnswerNo(Sheet sheet, NeedSteps x) {
        int no = NeedSteps.NO;
        for (int n : NUMBERS) {
            sheet.due("step(" + n + ")", x.step(n), no);
            sheet.due("stopAt(" + n + ")", x.stopAt(n), no);
            sheet.due("back(" + n + ")", x.back(n), no);
            sheet.due("count(" + n + ")", x.count(n), no);
            sheet.due("node(" + n + ", 0)", x.node(n, 0), no);
            sheet.due("node(0, " + n + ")", x.node(0, n), no);
            sheet.due("top(" + n + ")", x.top(n), no);
            sheet.due("why(" + n + ")", x.why(n), no);
            sheet.due("way(" + n + ", -1)", x.way(n, -1), no);
            sheet.due("way(0, " + n + ")", x.way(0, n), no);
            sheet.due("profile(" + n + ", 0)", x.profile(n, 0), no);
            sheet.due("profile(0, " + n + ")", x.profile(0, n), no);
        }
        sheet.due("state()", x.state(), no);
        sheet.due("error()", x.error(), no);
        sheet.due("next()", x.next(), no);
        sheet.due("sweep()", x.sweep(), no);
        sheet.due("rest()", x.rest(), no);
        sheet.holds("share() throws", throwsArithmetic(x));
    }

    static boolean throwsArithmetic(NeedSteps x) {
        try {
            x.share();
            return false;
        } catch (ArithmeticException e) {
            return true;
        }
    }
}
