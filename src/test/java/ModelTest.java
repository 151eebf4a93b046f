import java.util.ArrayList;
import java.util.List;
import java.util.Random;

/**
 * The class held against the Model, call by call, on texts by chance: programs of all kinds, one
 * behind the other in one object, and texts with FAULTS. No sentence of its own: all of them at once.
 */
public final class ModelTest {
    private static final Sheet SHEET = new Sheet("model");

    /** They come to FULL of each sort, need sweeps to go on, have rings, deep DUMPS, long ways. */
    private static final String[] TEXTS = {
        "main=let f=fib 7;in add f f;fib n=if(less n 2)n(add(fib(sub n 1))(fib(sub n 2)));",
        "main=sum(upto 1 9);sum l=if(empty l)0(add(head l)(sum(tail l)));"
            + "upto a b=if(less b a)nil(cons a(upto(add a 1)b));",
        "main=loop 0;loop n=loop(add n 1);", "main=loop 0;loop n=seq n(loop(add n 1));",
        "main=let x=x 1;in x;", "main=add(let x=x 1;in x)1;", "main=main;",
        "main=g head;g h=h(h(h(h(h(h(h(h(h(h(g h))))))))));",
        "main=nth 9 primes;primes=sieve(from 2);from n=cons n(from(add n 1));nth n l=if n(nth(sub n 1)(tail l))(head l);"
            + "sieve l=cons(head l)(sieve(drop(head l)(tail l)));"
            + "drop p l=if(mod(head l)p)(cons(head l)(drop p(tail l)))(drop p(tail l));mod a b=sub a(mul b(quo a b));",
        "main=let a=cons 1 b;b=cons 2 a;in add(head a)(head(tail a));",
        "main=let x=add y 1;y=add z 1;z=add w 1;w=add y 1;in x;", "main=seq(add 1 2)x;x=y;y=x;",
        "main=f 1 2 3 4 5 6 7 8;f a b c d e f g h=cons(g h)(cons(f e)(cons(d c)(b a)));",
        "main=let a=let b=c;in b;c=d;d=a;in cons a(add c 1);", "ones=cons 1 ones;main=head(tail(tail ones));"};

    private static final String[] WORDS = {"=", ";", "(", ")", "let", "in", "let a=", "a", "b", "f", "g", "main", "p0",
        "x4", "123456789", "1234567890", "abcdefgh", "abcdefghi", "add", "nil", "+", "A", "0", " ", "\n", "\t",
        "((((((", "))))))", "a=1;b=2;c=3;d=4;", "1 2 3 4 5 6 7", " a b c d e f g", "d1=1;d2=1;d3=1;d4=1;d5=1;d6=1;",
        "d7=1;d8=1;d9=1;e1=1;e2=1;e3=1;e4=1;", "let a=1;in "};

    public static void main(String[] args) {
        for (int seed = 0; seed < 150; seed++) {
            runs(new Random(seed), new Programs(1000 + seed));
        }
        for (int seed = 0; seed < 3000; seed++) {
            reads(new Random(seed), new Programs(seed));
        }
        SHEET.end();
    }

    private static void runs(Random chance, Programs programs) {
        Two two = new Two();
        while (two.left() > 60) {
            String text = chance.nextInt(3) == 0 ? TEXTS[chance.nextInt(TEXTS.length)] : programs.text();
            two.feed(chance.nextInt(6) == 0 ? broken(text, chance) : text);
            two.read();
            int calls = 20 + chance.nextInt(150);
            for (int i = 0; i < calls && two.left() > 0; i++) {
                two.call(chance);
            }
        }
    }

    private static void reads(Random chance, Programs programs) {
        Two two = new Two();
        String text = chance.nextBoolean() ? TEXTS[chance.nextInt(TEXTS.length)] : programs.text();
        two.feed(broken(text, chance));
        two.read();
    }

    private static String broken(String text, Random chance) {
        StringBuilder broken = new StringBuilder(text);
        for (int edits = 1 + chance.nextInt(4); edits > 0 && broken.length() > 0; edits--) {
            int at = chance.nextInt(broken.length());
            switch (chance.nextInt(3)) {
                case 0: broken.deleteCharAt(at); break;
                case 1: broken.insert(at, WORDS[chance.nextInt(WORDS.length)]); break;
                default: broken.replace(at, at + 1, WORDS[chance.nextInt(WORDS.length)]); break;
            }
        }
        return broken.length() > 780 ? text : broken.toString();
    }

    /** An object and its Model, which are asked the same. */
    private static final class Two {
        private final NeedSteps x = new NeedSteps();
        private final Model model = new Model();
        private final List<String> calls = new ArrayList<>();
        private boolean differed = false;

        int left() {
            return differed ? 0 : 512 - calls.size();
        }

        private void due(String call, int got, int want) {
            calls.add(call);
            // what comes behind the first wrong answer tells nothing more
            if (!differed) {
                differed = got != want;
                SHEET.due(differed ? String.join(", ", calls) : call, got, want);
            }
        }

        void feed(String text) {
            int end = 0;
            for (int i = 0; i < text.length(); i += 20) {
                int[] n = new int[5];
                for (int j = 0; j < 20; j++) {
                    n[j / 4] = n[j / 4] << 8 | (i + j < text.length() ? text.charAt(i + j) : ' ');
                }
                end = model.feed(n);
                due("feed " + text, x.feed(n[0], n[1], n[2], n[3], n[4]), end);
            }
            int to = end - (20 - text.length() % 20) % 20;
            due("cut(" + to + ")", x.cut(to), model.cut(to));
        }

        void read() {
            due("read()", x.read(), model.read());
            due("fault()", x.fault(), model.fault());
        }

        void call(Random chance) {
            int n = chance.nextInt(12) == 0 ? chance.nextInt() : chance.nextInt(40) - 2;
            int k = chance.nextInt(12) == 0 ? chance.nextInt() : chance.nextInt(9) - 2;
            int many = chance.nextInt(4) == 0 ? 1 + chance.nextInt(2000) : n;
            switch (chance.nextInt(30)) {
                case 0: due("state()", x.state(), model.state()); break;
                case 1: due("error()", x.error(), model.error()); break;
                case 2: case 3: due("next()", x.next(), model.next()); break;
                case 4: due("stopAt(" + k + ")", x.stopAt(k), model.stopAt(k)); break;
                case 5: case 6: due("back(" + many + ")", x.back(many), model.back(many)); break;
                case 7: case 8: due("sweep()", x.sweep(), model.sweep()); break;
                case 9: case 10: due("count(" + k + ")", x.count(k), model.count(k)); break;
                case 11: case 12: case 13: case 14:
                    int node = chance.nextInt(3) == 0 ? chance.nextInt(402) - 1 : n;
                    due("node(" + node + ", " + k + ")", x.node(node, k), model.node(node, k));
                    break;
                case 15: due("top(" + k + ")", x.top(k), model.top(k)); break;
                case 16: due("why(" + k + ")", x.why(k), model.why(k)); break;
                case 17: case 18: due("way(" + n + ", " + k + ")", x.way(n, k), model.way(n, k)); break;
                case 19: due("profile(" + k + ", " + (n & 1) + ")", x.profile(k, n & 1), model.profile(k, n & 1)); break;
                case 20: due("rest()", x.rest(), model.rest()); break;
                case 21: due("share()", shareOf(), shareOfModel()); break;
                default: due("step(" + many + ")", x.step(many), model.step(many)); break;
            }
        }

        private int shareOf() {
            try {
                return x.share();
            } catch (ArithmeticException e) {
                return Integer.MIN_VALUE;
            }
        }

        private int shareOfModel() {
            try {
                return model.share();
            } catch (ArithmeticException e) {
                return Integer.MIN_VALUE;
            }
        }
    }
}
