/** What the tests share: a text goes onto THE TAPE, an answer is held against the one due. */
final class Sheet {
    private final String title;
    private String sentence = "";
    private int calls = 0;
    private int wrong = 0;

    Sheet(String title) {
        this.title = title;
    }

    /**
     * What follows is for this sentence of DOC.md, under this heading. SentenceTest holds the
     * words against the document, so each call is written with two plain texts.
     */
    void sentence(String heading, String words) {
        sentence = " [" + heading + ": \"" + words + "\"]";
    }

    void due(String call, long got, long want) {
        calls++;
        if (got != want) {
            wrong++;
            System.out.println(title + ": " + call + " answered " + got + ", due is " + want + sentence);
        }
    }

    void same(String what, String got, String want) {
        calls++;
        if (!got.equals(want)) {
            wrong++;
            System.out.println(title + ": " + what + sentence + "\n  is  " + got + "\n  due " + want);
        }
    }

    void holds(String what, boolean held) {
        due(what, held ? 1 : 0, 1);
    }

    void end() {
        System.out.println(title + ": " + calls + " answers, " + wrong + " not as due");
        if (wrong != 0 || calls == 0) {
            System.exit(1);
        }
    }

    /** Puts exactly the text's bytes behind THE TAPE, if they fit. */
    static void feed(NeedSteps x, String text) {
        int end = 0;
        for (int i = 0; i < text.length(); i += 20) {
            end = x.feed(word(text, i), word(text, i + 4), word(text, i + 8), word(text, i + 12),
                word(text, i + 16));
        }
        x.cut(end - (20 - text.length() % 20) % 20);
    }

    /** Four bytes of a text that has blanks behind it. */
    private static int word(String text, int from) {
        int word = 0;
        for (int i = from; i < from + 4; i++) {
            word = word << 8 | (i < text.length() ? text.charAt(i) : ' ');
        }
        return word;
    }

    static NeedSteps program(String text) {
        NeedSteps x = new NeedSteps();
        feed(x, text);
        x.read();
        return x;
    }

    /** The text has a FAULT, which is at a place. */
    void fault(String text, int fault, int place) {
        NeedSteps x = new NeedSteps();
        feed(x, text);
        due("read() of " + text, x.read(), -10 - place);
        due("fault() of " + text, x.fault(), fault);
        due("state() behind the fault of " + text, x.state(), NeedSteps.NO);
    }

    /** The text has a FAULT, where the mark ^ stands in it. */
    void fault(int fault, String marked) {
        fault(marked.replace("^", ""), fault, marked.indexOf('^'));
    }

    /** The text has no FAULT. */
    NeedSteps fine(String text, int definitions) {
        NeedSteps x = new NeedSteps();
        feed(x, text);
        due("read() of " + text, x.read(), definitions);
        due("fault() of " + text, x.fault(), 0);
        return x;
    }

    /** The text comes to a NUMBER. */
    NeedSteps number(String text, int want) {
        NeedSteps x = program(text);
        x.step(2000);
        due("state() of " + text, x.state(), 1);
        due("rest() of " + text, x.rest(), 0);
        due("the NUMBER of " + text, x.node(x.top(0), 1), want);
        return x;
    }

    /** The text comes to an ERROR after some STEPS. */
    NeedSteps error(String text, int steps, int error) {
        NeedSteps x = program(text);
        due("step(2000) of " + text, x.step(2000), steps);
        due("state() of " + text, x.state(), 2);
        due("error() of " + text, x.error(), error);
        due("next() of " + text, x.next(), 7);
        return x;
    }
}
