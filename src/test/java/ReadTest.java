/** Promises 4 and 5: read, fault, with each of the FAULTS. */
public final class ReadTest {
    private static final Sheet SHEET = new Sheet("read");

    public static void main(String[] args) {
        noTokens();
        misplacedTokens();
        tooMany();
        toldTwice();
        notTold();
        noMain();
        firstFaultCounts();
        names();
        SHEET.end();
    }

    private static void noTokens() {
        SHEET.fault("main=1+2;", 1, 6);
        SHEET.fault("main=1234567890;", 1, 5);
        SHEET.fine("main=123456789;", 1);
        SHEET.fault("main=abcdefghi;", 1, 5);
        SHEET.fault("abcdefghi=1;", 1, 0);
        SHEET.fine("main=abcdefgh;abcdefgh=1;", 2);
        SHEET.fault("main=\t1;", 1, 5);
        SHEET.fault("main=1;\r", 1, 7);
        SHEET.fault("main=A;", 1, 5);
        SHEET.fault("main=1;\u0000", 1, 7);
        SHEET.fine(" \n main \n\n = 1 ; \n", 1);
        SHEET.fine("main=add 1x 2;x=3;", 2).step(1);
        SHEET.number("main=add 1x;x=2;", 3);
        SHEET.number("main=lets;lets=7;", 7);
    }

    private static void misplacedTokens() {
        SHEET.fault("", 2, 0);
        SHEET.fault("   \n ", 2, 5);
        SHEET.fault("main", 2, 4);
        SHEET.fault("main  ", 2, 6);
        SHEET.fault("main=", 2, 5);
        SHEET.fault("main=;", 2, 5);
        SHEET.fault("main=1", 2, 6);
        SHEET.fault("main=1  ", 2, 8);
        SHEET.fault("main=1;;", 2, 7);
        SHEET.fault("main=1;2", 2, 7);
        SHEET.fault("main=();", 2, 6);
        SHEET.fault("main=(1;", 2, 7);
        SHEET.fault("main=1);", 2, 6);
        SHEET.fault("main==1;", 2, 5);
        SHEET.fault("main 1=1;", 2, 5);
        SHEET.fault("main add=1;", 2, 5);
        SHEET.fault("let=1;", 2, 0);
        SHEET.fault("in=1;", 2, 0);
        SHEET.fault("seq=1;", 2, 0);
        SHEET.fault("main=let in 1;", 2, 9);
        SHEET.fault("main=let a=1 in a;", 2, 13);
        SHEET.fault("main=let a=1;in;", 2, 15);
        SHEET.fault("main=let a b=1;in a;", 2, 11);
        SHEET.fault("main=let nil=1;in 2;", 2, 9);
        SHEET.fault("main=let a=1;;in a;", 2, 13);
        SHEET.fault("main=let a=1;", 2, 13);
        SHEET.fault("main=add let a=1;in a;", 2, 9);
        SHEET.fault("main=1 in;", 2, 7);
        SHEET.fine("main=add(let a=1;in a)let2;let2=2;", 2);
    }

    private static void tooMany() {
        StringBuilder many = new StringBuilder("main=1;");
        for (int d = 1; d < 20; d++) {
            many.append("d").append(d).append("=1;");
        }
        SHEET.fine(many.toString(), 20);
        SHEET.fault(many + "e=1;", 3, many.length());
        SHEET.fault(many + "main=1;", 3, many.length());
        SHEET.fault(many + "1", 2, many.length());
        SHEET.fine("f a b c d e f g h=1;main=1;", 2);
        SHEET.fault("f a b c d e f g h i=1;main=1;", 3, 18);
        SHEET.fault("f a b c d e f g h a=1;main=1;", 3, 18);
        SHEET.fault("f a b c d e f g h 1=1;main=1;", 2, 18);
        SHEET.fine("main=add 1 2 3 4 5 6 7 8 9;", 1);
        SHEET.fault("main=add 1 2 3 4 5 6 7 8 9 0;", 3, 27);
        SHEET.fault("main=add 1 2 3 4 5 6 7 8 9 (0);", 3, 27);
        SHEET.fault("main=add 1 2 3 4 5 6 7 8 9 let;", 2, 27);
        SHEET.fine("main=let a=1;b=2;c=3;d=4;e=5;f=6;in a;", 1);
        SHEET.fault("main=let a=1;b=2;c=3;d=4;e=5;f=6;g=7;in a;", 3, 33);
        SHEET.fault("main=let a=1;b=2;c=3;d=4;e=5;f=6;a=7;in a;", 3, 33);
        SHEET.fault("main=let a=1;b=2;c=3;d=4;e=5;f=6;7", 2, 33);
        openOnes();
    }

    private static void openOnes() {
        SHEET.fine("main=((((((((((((1))))))))))));", 1);
        SHEET.fault("main=(((((((((((((1)))))))))))));", 3, 17);
        SHEET.fine("main=(((((((((((let a=1;in a)))))))))));", 1);
        SHEET.fault("main=((((((((((((let a=1;in a))))))))))));", 3, 17);
        // a let is open in its BINDINGS and up to the end of its EXPR
        SHEET.fault("main=let a=((((((((((((1))))))))))));in a;", 3, 22);
        SHEET.fine("main=let a=(((((((((((1)))))))))));in a;", 1);
        SHEET.fault("main=let a=1;in((((((((((((1))))))))))));", 3, 26);
        SHEET.fine("main=let a=1;in(((((((((((1)))))))))));", 1);
        // ended ones are not open any more
        SHEET.fine("main=add((((((((((((1))))))))))))((((((((((((1))))))))))));", 1);
        SHEET.fine("main=let a=let b=1;in b;c=(((((((((((1)))))))))));in a;", 1);
        StringBuilder lets = new StringBuilder();
        for (int i = 0; i < 12; i++) {
            lets.append("let a=").append(i).append(";in ");
        }
        SHEET.number("main=" + lets + "a;", 11);
        SHEET.fault("main=" + lets + "let a=1;in a;", 3, 5 + lets.length());
    }

    private static void toldTwice() {
        SHEET.fault("main=1;main=2;", 4, 7);
        SHEET.fault("main=1;main", 4, 7);
        SHEET.fault("f a b a=1;main=1;", 4, 6);
        SHEET.fault("main=let a=1;a=2;in a;", 4, 13);
        SHEET.fault("main=let a=1;b=2;a=2;in a;", 4, 17);
        SHEET.fine("f f=f;main=1;", 2);
        SHEET.fine("f a=let a=a;in let a=a;in a;main=1;g a=a;", 3);
        SHEET.fine("main=let a=let a=1;b=2;in a;b=3;in a;", 1);
    }

    private static void notTold() {
        SHEET.fault("main=y;", 5, 5);
        SHEET.fault("main=add x(add y x);", 5, 9);
        SHEET.fault("f a=a;main=a;", 5, 11);
        SHEET.fault("main=add(let a=1;in a)a;", 5, 22);
        SHEET.fault("main=let a=let b=1;in b;c=b;in a;", 5, 26);
        SHEET.fault("f=y;", 5, 2);
        SHEET.fine("main=later;later=1;", 2);
        SHEET.fine("main=let a=b;b=a;in a;", 1);
    }

    private static void noMain() {
        SHEET.fault("f=1;", 6, 4);
        SHEET.fault("f=1;  ", 6, 6);
        SHEET.fault("main a=1;", 6, 9);
        SHEET.fine("f=1;main=2;", 2);
    }

    /** The first TOKEN with a FAULT is told; a NAME not told only if there is no such. */
    private static void firstFaultCounts() {
        SHEET.fault("main=y;main=1;", 4, 7);
        SHEET.fault("f=y+;", 1, 3);
        SHEET.fault("main=1;main=+;", 4, 7);
        SHEET.fault("f=1 +", 1, 4);
        SHEET.fault("main=y;g a a=1;", 4, 11);
    }

    /** The nearest one told around it is meant. */
    private static void names() {
        SHEET.number("main=f 1;f a=let a=2;in a;", 2);
        SHEET.number("main=f 1;f main=main;", 1);
        SHEET.number("main=let a=b;b=3;in let b=4;in add(mul 10 a)b;", 34);
        SHEET.number("main=let a=1;in add(let a=2;in a)(mul 10 a);", 12);
        SHEET.number("main=let a=let b=5;in b;b=7;in add(mul 10 a)b;", 57);
        SHEET.number("main=g 1;g x=let y=x;in(let x=y;in add x 1);", 2);
        SHEET.number("a=1;main=let b=a;a=2;in b;", 2);
        SHEET.number("f a b c d e f g h=sub h a;main=f 1 2 3 4 5 6 7 9;", 8);
        SHEET.number("main=let a=let x=1;y=2;in sub y x;b=let x=5;y=9;in sub y x;in add(mul 10 a)b;", 14);
    }
}
