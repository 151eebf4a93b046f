/** Promises 4 and 5: read, fault; and what the Terms say of TOKENS, PROGRAM and FAULTS. */
public final class ReadTest {
    private static final Sheet SHEET = new Sheet("read");
    private static final String[] WORDS = {"let", "in", "add", "sub", "mul", "quo", "less", "same", "if",
        "cons", "nil", "head", "tail", "empty", "seq"};

    public static void main(String[] args) {
        blanks();
        longTokens();
        numbers();
        names();
        signs();
        words();
        definitions();
        parameters();
        exprs();
        bindings();
        atoms();
        mainIsOne();
        nearestName();
        firstToken();
        noToken();
        cannotStand();
        tooMany();
        openOnes();
        toldAlready();
        notTold();
        noMain();
        tapeIsTheProgram();
        asItBegins();
        placeOfTheFault();
        noProgramThen();
        latestFault();
        SHEET.end();
    }

    private static void blanks() {
        SHEET.sentence("Terms", "BLANKS are 32, 10.");
        SHEET.fine(" \n main \n\n = 1 ; \n", 1);
        SHEET.fine("\nf\na\n=\na\n;\nmain\n=\nf\n(\n1\n)\n;\n", 2);
        for (char c : new char[] {0, 9, 11, 12, 13, 31, 33, 127, 128, 160, 255}) {
            SHEET.fault("main= " + c + "1;", 1, 6);
        }
    }

    private static void longTokens() {
        SHEET.sentence("Terms", "TOKENS, as long as may be:");
        SHEET.number("main=lets;lets=7;", 7);
        SHEET.number("main=inn;inn=7;", 7);
        SHEET.number("main=let a=1;in in1;in1=7;", 7);
        SHEET.number("main=add1;add1=7;", 7);
        SHEET.number("main=12;", 12);
        SHEET.number("main=add 1x;x=2;", 3);
        SHEET.number("main=add 1(2);", 3);
        SHEET.number("main=add(1)2;", 3);
        SHEET.fault(5, "main=^add12;");
        SHEET.fault(5, "main=^letx;");
        // ten digits are not nine and one, nine letters not eight and one
        SHEET.fault(1, "main=^1234567890;");
        SHEET.fault(1, "main=^abcdefghi;i=1;abcdefgh=2;");
    }

    private static void numbers() {
        SHEET.sentence("Terms", "NUMBERS, 1 to 9 digits;");
        SHEET.number("main=0;", 0);
        SHEET.number("main=9;", 9);
        SHEET.number("main=999999999;", 999999999);
        SHEET.number("main=123456789;", 123456789);
        SHEET.number("main=000000007;", 7);
        SHEET.fault(1, "main=^0000000000;");
        SHEET.fault(1, "main=^0000000007;");
        SHEET.fault(1, "main=^1234567890;");
        SHEET.fault(1, "main=^9999999999999999999999999;");
        SHEET.fault(1, "main=^/;");
        SHEET.fault(1, "main=^:;");
        SHEET.fault(1, "main=^-1;");
    }

    private static void names() {
        SHEET.sentence("Terms", "NAMES, a letter a .. z and letters, digits, 8 bytes at most;");
        SHEET.number("main=a;a=1;", 1);
        SHEET.number("main=z;z=1;", 1);
        SHEET.number("main=abcdefgh;abcdefgh=1;", 1);
        SHEET.number("main=z9876543;z9876543=1;", 1);
        SHEET.number("main=a0z9;a0z9=1;", 1);
        SHEET.fault(1, "main=^abcdefghi;");
        SHEET.fault(1, "^abcdefghi=1;");
        SHEET.fault(1, "main=^a12345678;");
        SHEET.fault(1, "main ^aaaaaaaaaaaaaaaaaa=1;");
        SHEET.fault(1, "main=^letletlet;");
        SHEET.fault(1, "main=^A;");
        SHEET.fault(1, "main=a^B;a=1;");
        SHEET.fault(1, "main=^Z;");
        SHEET.fault(1, "main=^`;");
        SHEET.fault(1, "main=^{;");
        SHEET.fault(1, "main=a^_b;a=1;");
        // two NAMES that differ in their last byte alone, or in their length, are two
        SHEET.number("main=sub aaaaaaab aaaaaaac;aaaaaaab=5;aaaaaaac=3;", 2);
        SHEET.number("main=sub a aa;a=5;aa=3;", 2);
        SHEET.number("main=sub b1 b;b=3;b1=5;", 2);
    }

    private static void signs() {
        SHEET.sentence("Terms", "signs = ; ( ).");
        SHEET.number("main=(add(1)((2)));", 3);
        for (char c : "!\"#$%&'*+,-./:<>?@[\\]^_`{|}~".toCharArray()) {
            SHEET.fault("main=1" + c + ";", 1, 6);
        }
        SHEET.fault(2, "main=^=1;");
    }

    private static void words() {
        SHEET.sentence("Terms",
            "WORDS are let, in, and the PRIMITIVES: add sub mul quo less same if cons nil head tail empty seq");
        for (String word : WORDS) {
            SHEET.fault(2, "^" + word + "=1;main=1;");
            SHEET.fault(2, "f ^" + word + "=1;main=1;");
            SHEET.fault(2, "main=let a=1;^" + (word.equals("in") ? "let" : word) + "=1;in 1;");
        }
        // beginnings of WORDS and WORDS with more behind them are NAMES
        for (String word : WORDS) {
            SHEET.fine(word + "s=1;main=1;", 2);
            SHEET.fine(word.substring(0, word.length() - 1) + "=1;main=1;", 2);
        }
    }

    private static String definitions(int howMany) {
        StringBuilder text = new StringBuilder("main=1;");
        for (int d = 1; d < howMany; d++) {
            text.append("d").append(d).append("=1;");
        }
        return text.toString();
    }

    private static void definitions() {
        SHEET.sentence("Terms",
            "PROGRAM: DEFINITIONS, 1 to 20, one behind the other: NAME NAMES = EXPR ;");
        SHEET.fault(2, "^");
        SHEET.fault(2, "   \n ^");
        SHEET.fine(definitions(1), 1);
        SHEET.fine(definitions(19), 19);
        SHEET.fine(definitions(20), 20);
        SHEET.fault(3, definitions(20) + "^e=1;");
        SHEET.fault(3, definitions(20) + "\n ^e");
        SHEET.fault(2, "main=1;^;");
        SHEET.fault(2, "main=1;^1");
        SHEET.fault(2, "main=1;f^");
        SHEET.fault(2, "main^;");
        SHEET.fault(2, "^(main=1;");
    }

    private static void parameters() {
        SHEET.sentence("Terms",
            "the first NAME is what it defines, the others (8 at most) are its PARAMETERS.");
        SHEET.number("f=4;main=f;", 4);
        SHEET.number("f a=a;main=f 4;", 4);
        SHEET.number("f a b c d e f g h=sub h a;main=f 1 2 3 4 5 6 7 9;", 8);
        SHEET.fault(3, "f a b c d e f g h ^i=1;main=1;");
        SHEET.fault(2, "f a ^1=1;main=1;");
        SHEET.fault(2, "f a ^(b)=1;main=1;");
    }

    private static void exprs() {
        SHEET.sentence("Terms", "EXPR: let BINDINGS in EXPR; or ATOMS, 1 to 10, one behind the other.");
        SHEET.fault(2, "main=^;");
        SHEET.fault(2, "main=(^);");
        SHEET.fault(2, "main=let a=^;in 1;");
        SHEET.fault(2, "main=let a=1;in^;");
        SHEET.fine("main=1;", 1);
        SHEET.fine("main=add 1 2 3 4 5 6 7 8 9;", 1);
        SHEET.fault(3, "main=add 1 2 3 4 5 6 7 8 9 ^0;");
        SHEET.fault(3, "main=1(add 1 2 3 4 5 6 7 8 9 ^0);");
        SHEET.fault(3, "main=let a=add 1 2 3 4 5 6 7 8 9 ^0;in 1;");
        SHEET.fault(3, "main=let a=1;in add 1 2 3 4 5 6 7 8 9 ^0;");
        SHEET.fine("main=(add 1 2 3 4 5 6 7 8 9)2 3 4 5 6 7 8 9(add 1 2 3 4 5 6 7 8 9);", 1);
        SHEET.fault(2, "main=add ^let a=1;in a;");
        SHEET.fault(2, "main=1 ^in;");
        SHEET.fine("main=let a=let b=1;in b;in let c=a;in c;", 1);
    }

    private static void bindings() {
        SHEET.sentence("Terms", "BINDINGS, 1 to 6: NAME = EXPR ; each.");
        SHEET.fault(2, "main=let ^in 1;");
        SHEET.number("main=let a=1;in a;", 1);
        SHEET.number("main=let a=1;b=2;c=3;d=4;e=5;f=6;in add(mul 10 a)f;", 16);
        SHEET.fault(3, "main=let a=1;b=2;c=3;d=4;e=5;f=6;^g=7;in a;");
        SHEET.fault(2, "main=let a=1 ^in a;");
        SHEET.fault(2, "main=let a=1;^;in a;");
        SHEET.fault(2, "main=let a ^b=1;in a;");
        SHEET.fault(2, "main=let a^;in a;");
        SHEET.fault(2, "main=let ^1=1;in 1;");
        SHEET.fault(2, "main=let a=1;^");
    }

    private static void atoms() {
        SHEET.sentence("Terms", "ATOM: NUMBER, PRIMITIVE, NAME, ( EXPR ).");
        SHEET.number("main=add x(let a=1;in a);x=2;", 3);
        SHEET.fault(2, "main=(1^;");
        SHEET.fault(2, "main=1^);");
        SHEET.fault(2, "main=(1)^);");
        SHEET.fault(2, "main=(1^");
        SHEET.fault(2, "main=(let a=1;in a^;");
        SHEET.fault(2, "main=let a=(1^;in a);");
        SHEET.fault(2, "main=1 ^=2;");
    }

    private static void mainIsOne() {
        SHEET.sentence("Terms", "main, without PARAMETERS, is one of them.");
        SHEET.number("main=1;", 1);
        SHEET.number("f=2;g=3;main=f;", 2);
        SHEET.fault(6, "f=1;^");
        SHEET.fault(6, "main a=1;^");
        SHEET.fault(6, "mai=1;mainn=1;f main=1;g=let main=1;in main;^");
    }

    private static void nearestName() {
        SHEET.sentence("Terms", "A NAME within is the nearest one told around it: by a let (also in its own BINDINGS' EXPRS, all of them), as a PARAMETER, by a DEFINITION (also a later one).");
        SHEET.number("main=f 1;f a=let a=2;in a;", 2);
        SHEET.number("main=f 1;f main=main;", 1);
        SHEET.number("main=f 1;f f=f;", 1);
        SHEET.number("main=let f=3;in f;f=4;", 3);
        SHEET.number("main=let a=b;b=3;in let b=4;in add(mul 10 a)b;", 34);
        SHEET.number("main=let a=1;in add(let a=2;in a)(mul 10 a);", 12);
        SHEET.number("main=let a=let b=5;in b;b=7;in add(mul 10 a)b;", 57);
        SHEET.number("main=g 1;g x=let y=x;in(let x=y;in add x 1);", 2);
        SHEET.number("a=1;main=let b=a;a=2;in b;", 2);
        SHEET.number("main=let a=let x=1;y=2;in sub y x;b=let x=5;y=9;in sub y x;in add(mul 10 a)b;", 14);
        // its own BINDINGS: also the first by the last, the last by the first
        SHEET.number("main=let a=f;b=1;c=2;d=3;e=4;f=9;in a;", 9);
        SHEET.number("main=let a=9;b=1;c=2;d=3;e=4;f=a;in f;", 9);
        // its own BINDING hides what is around it: a let's NAME, a PARAMETER, a DEFINITION
        SHEET.error("main=let a=1;in let a=add a 1;in a;", 4, 5);
        SHEET.error("main=f 1;f a=let a=add a 1;in a;", 6, 5);
        SHEET.error("main=let a=add a 1;in a;a=1;", 4, 5);
        // a let, a DEFINITION beside it does not tell: not around it
        SHEET.number("main=add(let a=1;b=2;in b)(let c=3;in b);b=9;", 11);
        SHEET.number("main=add(let c=3;in b)(let a=1;b=2;in b);b=9;", 11);
        SHEET.number("f a b=b;g a=b;main=g 1;b=7;", 7);
        SHEET.number("main=g 1;g a=b;f a b=b;b=7;", 7);
        SHEET.number("main=later;later=6;", 6);
        SHEET.number("first=6;main=first;", 6);
    }

    /** The first TOKEN with a FAULT is told; a NAME not told only if there is no such. */
    private static void firstToken() {
        SHEET.sentence("Terms", "FAULTS, the first TOKEN with one:");
        SHEET.fault(4, "main=y;^main=1;");
        SHEET.fault(1, "f=y^+;");
        SHEET.fault(4, "main=1;^main=+;");
        SHEET.fault(1, "f=1 ^+");
        SHEET.fault(2, "main=1 ^let +;");
        SHEET.fault(4, "main=y;g a ^a=1;");
        SHEET.fault(3, "f a b c d e f g h ^i i=+;");
        SHEET.fault(2, "main=^;=");
        // a TOKEN that has two of them: the lesser one
        SHEET.fault(1, "f a b c d e f g h ^abcdefghi=1;");
        SHEET.fault(1, definitions(20) + "^+=1;");
        SHEET.fault(1, "main=add 1 2 3 4 5 6 7 8 9 ^1234567890;");
        SHEET.fault(1, "main=let a=1;b=2;c=3;d=4;e=5;f=6;^abcdefghi=7;in a;");
        SHEET.fault(2, definitions(20) + "^add=1;");
        SHEET.fault(2, "f a b c d e f g h ^1=1;main=1;");
        SHEET.fault(2, "main=add 1 2 3 4 5 6 7 8 9 ^let;");
        SHEET.fault(2, "main=let a=1;b=2;c=3;d=4;e=5;f=6;^7");
    }

    private static void noToken() {
        SHEET.sentence("Terms", "1 it is none;");
        SHEET.fault(1, "^+");
        SHEET.fault(1, "main^+=1;");
        SHEET.fault(1, "main a^,b=1;");
        SHEET.fault(1, "main=1^+2;");
        SHEET.fault(1, "main=let ^A=1;in 1;");
        SHEET.fault(1, "main=let a=1;^+");
        SHEET.fault(1, "main=(^+);");
        SHEET.fault(1, "main=(1^];");
        SHEET.fault(1, "main=1;^+");
        SHEET.fault(1, "main=1; \n^1234567890");
    }

    private static void cannotStand() {
        SHEET.sentence("Terms", "2 it cannot stand there (the end: behind the last byte);");
        SHEET.fault(2, "^");
        SHEET.fault(2, "  ^");
        SHEET.fault(2, "main^");
        SHEET.fault(2, "main  ^");
        SHEET.fault(2, "main a^");
        SHEET.fault(2, "main=^");
        SHEET.fault(2, "main=1^");
        SHEET.fault(2, "main=1 \n^");
        SHEET.fault(2, "main=let^");
        SHEET.fault(2, "main=let a^");
        SHEET.fault(2, "main=let a=^");
        SHEET.fault(2, "main=let a=1^");
        SHEET.fault(2, "main=let a=1;in^");
        SHEET.fault(2, "main=(^");
        SHEET.fault(2, "main=1" + " ".repeat(794) + "^");
        SHEET.fault(2, "main=1;f=^;");
        SHEET.fault(2, "main=1;^=");
    }

    private static void tooMany() {
        SHEET.sentence("Terms", "3 the 21st DEFINITION, 9th PARAMETER, 11th ATOM, 7th BINDING (at its first TOKEN),");
        SHEET.fault(3, definitions(20) + "^e a=1;");
        SHEET.fault(3, definitions(20) + "^e");
        SHEET.fault(3, "f a b c d e f g h  ^i=1;main=1;");
        SHEET.fault(3, "main=add 1 2 3 4 5 6 7 8 9 ^(0);");
        SHEET.fault(3, "main=add 1 2 3 4 5 6 7 8 9 ^x;");
        SHEET.fault(3, "main=add 1 2 3 4 5 6 7 8 9 ^nil;");
        SHEET.fault(3, "main=(((((((((((add 1 2 3 4 5 6 7 8 9 ^0)))))))))));");
        SHEET.fault(3, "main=let a=1;b=2;c=3;d=4;e=5;f=6;^g 1");
        SHEET.fault(3, "main=let x=let a=1;b=2;c=3;d=4;e=5;f=6;^g=7;in a;in x;");
        // each let has six of its own, each DEFINITION its own PARAMETERS
        SHEET.fine("main=let x=let a=1;b=2;c=3;d=4;e=5;f=6;in a;a=1;b=2;c=3;d=4;e=5;in x;", 1);
        SHEET.fine("f a b c d e f g h=1;g a b c d e f g h=1;main=1;", 3);
        // it comes ahead of a NAME that is not told, and of a main that is not there
        String others = definitions(20).replace("main=1;", "other=1;");
        SHEET.fault(3, others + "^main=1;");
        SHEET.fault(3, definitions(20).replace("d19=1;", "d19=y;") + "^e=1;");
        SHEET.fault(3, "f a b c d e f g h ^i=y;");
        SHEET.fault(3, "f=y 1 2 3 4 5 6 7 8 9 ^0;");
        SHEET.fault(3, "f=let a=y;b=2;c=3;d=4;e=5;f=6;^g=7;in a;");
        SHEET.fault(3, "f=y((((((((((((^(1)))))))))))));");
        // a TOKEN with the FAULTS 3 and 4 has the lesser one
        SHEET.fault(3, definitions(20) + "^main=1;");
        SHEET.fault(3, "f a b c d e f g h ^a=1;main=1;");
        SHEET.fault(3, "main=let a=1;b=2;c=3;d=4;e=5;f=6;^a=7;in a;");
    }

    private static void openOnes() {
        SHEET.sentence("Terms", "or the 13th that is open of let (up to the end of its EXPR) and (;");
        SHEET.fine("main=((((((((((((1))))))))))));", 1);
        SHEET.fault(3, "main=((((((((((((^(1)))))))))))));");
        SHEET.fine("main=(((((((((((let a=1;in a)))))))))));", 1);
        SHEET.fault(3, "main=((((((((((((^let a=1;in a))))))))))));");
        // a let is open in its BINDINGS and up to the end of its EXPR
        SHEET.fine("main=let a=(((((((((((1)))))))))));in a;", 1);
        SHEET.fault(3, "main=let a=(((((((((((^(1))))))))))));in a;");
        SHEET.fine("main=let a=1;in(((((((((((1)))))))))));", 1);
        SHEET.fault(3, "main=let a=1;in(((((((((((^(1))))))))))));");
        SHEET.fault(3, "main=let a=1;b=(((((((((((^(1))))))))))));in a;");
        // ended ones are not open any more
        SHEET.fine("main=add((((((((((((1))))))))))))((((((((((((1))))))))))));", 1);
        SHEET.fine("main=let a=let b=1;in b;c=(((((((((((1)))))))))));in a;", 1);
        SHEET.fine("main=add(let a=1;in a)((((((((((((1))))))))))));", 1);
        SHEET.fine("f=((((((((((((1))))))))))));main=((((((((((((1))))))))))));", 2);
        StringBuilder lets = new StringBuilder();
        StringBuilder within = new StringBuilder();
        for (int i = 0; i < 12; i++) {
            lets.append("let a=").append(i).append(";in ");
            within.append("let a=");
        }
        SHEET.number("main=" + lets + "a;", 11);
        SHEET.fault(3, "main=" + lets + "^let a=1;in a;");
        SHEET.fault(3, "main=" + lets + "^(1);");
        SHEET.fault(3, "main=" + within + "^let a=1;in a;");
        SHEET.fine("main=" + within + "1" + ";in 1".repeat(12) + ";", 1);
    }

    private static void toldAlready() {
        SHEET.sentence("Terms", "4 a NAME that was told already by its DEFINITION's PARAMETERS or its let, or as a DEFINITION (a nearer one hides one told around it).");
        SHEET.fault(4, "main=1;^main=2;");
        SHEET.fault(4, "main=1;^main");
        SHEET.fault(4, "main=1;f a=1;g=1;^f=2;");
        SHEET.fault(4, definitions(19) + "^d18=1;");
        SHEET.fault(4, "f a ^a=1;main=1;");
        SHEET.fault(4, "f a b c d e f g ^a=1;main=1;");
        SHEET.fault(4, "f a b c d e f g ^g=1;main=1;");
        SHEET.fault(4, "main=let a=1;^a=2;in a;");
        SHEET.fault(4, "main=let a=1;b=2;c=3;d=4;e=5;^a=2;in a;");
        SHEET.fault(4, "main=let a=1;in let b=1;^b=2;in a;");
        SHEET.fine("f f=f;main=1;", 2);
        SHEET.fine("f a=let a=a;in let a=a;in a;main=1;g a=a;", 3);
        SHEET.fine("main=let a=let a=1;b=2;in a;b=3;in a;", 1);
        SHEET.fine("f a=let f=1;main=2;in a;main=let f=1;in f;", 2);
        SHEET.fine("f a=1;g a=let a=1;in a;main=let a=1;in let a=2;in a;a=1;", 4);
    }

    private static void notTold() {
        SHEET.sentence("Terms", "If there is none: 5 the first NAME in an EXPR that is not told;");
        SHEET.fault(5, "main=^y;");
        SHEET.fault(5, "main=add ^x(add y x);");
        SHEET.fault(5, "f a=a;main=^a;");
        SHEET.fault(5, "main=^a;f a=a;");
        SHEET.fault(5, "main=add(let a=1;in a)^a;");
        SHEET.fault(5, "main=let a=let b=1;in b;c=^b;in a;");
        SHEET.fault(5, "main=let a=^y;in x;");
        SHEET.fault(5, "main=let a=1;in ^mai;");
        SHEET.fault(5, "f=add 1 ^y;main a=1;");
        SHEET.fault(5, "f=^y;");
        SHEET.fault(5, "main=1;f=2;g=^y;");
        SHEET.fault(5, "main=add(let a=1;b=2;in b)(let c=3;in ^b);");
        SHEET.fault(5, "f a b=b;g a=^b;main=1;");
        SHEET.fault(5, "main=let a=1;b=2;in b;f=let c=1;in ^b;");
        SHEET.fine("main=let a=b;b=a;in a;", 1);
    }

    private static void noMain() {
        SHEET.sentence("Terms", "then 6 (at the end) there is no main, or it has PARAMETERS.");
        SHEET.fault(6, "f=1;^");
        SHEET.fault(6, "f=1; \n^");
        SHEET.fault(6, "main a=1;^");
        SHEET.fault(6, "main a b c d e f g h=1;^");
        SHEET.fault(6, "f=1;" + " ".repeat(796) + "^");
        SHEET.fine("f=1;main=2;", 2);
    }

    private static void tapeIsTheProgram() {
        SHEET.sentence("Promise 4: read",
            "THE TAPE, which is empty then, is the program, as it begins: how many DEFINITIONS.");
        for (int d = 1; d <= 20; d++) {
            NeedSteps x = SHEET.fine(definitions(d), d);
            SHEET.due("cut(0) behind read()", x.cut(0), 0);
            SHEET.due("cut(1) behind read()", x.cut(1), NeedSteps.BAD);
            SHEET.due("feed() behind read()", x.feed(0, 0, 0, 0, 0), 20);
        }
        NeedSteps x = Sheet.program("main=1;");
        SHEET.due("read() of nothing behind a program", x.read(), -10);
        SHEET.due("fault()", x.fault(), 2);
        // THE TAPE alone is the program: what one before it told is not told any more
        NeedSteps y = new NeedSteps();
        for (String name : new String[] {"f", "g", "a", "b", "c", "d"}) {
            Sheet.feed(y, "main=1;f a b=b;g=let c=1;d=2;in c;");
            SHEET.due("read()", y.read(), 3);
            Sheet.feed(y, "main=let e=1;in " + name + ";");
            SHEET.due("read() with the NAME " + name + " of before", y.read(), -26);
            SHEET.due("fault()", y.fault(), 5);
        }
        Sheet.feed(y, "f=1;main=2;");
        SHEET.due("read()", y.read(), 2);
        Sheet.feed(y, "f=1;");
        SHEET.due("read() without the main of before", y.read(), -14);
        SHEET.due("fault()", y.fault(), 6);
    }

    private static void asItBegins() {
        SHEET.sentence("Promise 4: read",
            "THE TAPE, which is empty then, is the program, as it begins: how many DEFINITIONS.");
        String text = "main=add(f 1)2;f a=quo a 0;";
        NeedSteps x = Sheet.program(text);
        String atFirst = Picture.of(x);
        x.stopAt(1);
        x.step(9);
        x.sweep();
        x.step(99);
        Sheet.feed(x, text);
        x.read();
        SHEET.same("the program read again", Picture.of(x), atFirst);
        SHEET.due("back(0)", x.back(0), 0);
        SHEET.due("back(1): no STEPS of the one before", x.back(1), NeedSteps.BAD);
    }

    private static void placeOfTheFault() {
        SHEET.sentence("Promise 4: read", "-10 less the place of its FAULT: there is no program then.");
        for (int place = 0; place < 800; place += place < 30 ? 1 : 7) {
            NeedSteps x = new NeedSteps();
            Sheet.feed(x, " ".repeat(place) + "=");
            SHEET.due("read()", x.read(), -10 - place);
        }
        NeedSteps end = new NeedSteps();
        Sheet.feed(end, " ".repeat(800));
        SHEET.due("read() of 800 blanks", end.read(), -810);
    }

    /** The program of before is gone, whichever FAULT it is; THE TAPE is empty. */
    private static void noProgramThen() {
        SHEET.sentence("Promise 4: read", "-10 less the place of its FAULT: there is no program then.");
        String[] texts = {"main=+;", "main=;", "main=1 2 3 4 5 6 7 8 9 0 1;", "main=1;main=1;", "main=y;", "f=1;"};
        for (int i = 0; i < texts.length; i++) {
            NeedSteps x = Sheet.program("main=1;");
            x.step(9);
            SHEET.due("rest()", x.rest(), 0);
            Sheet.feed(x, texts[i]);
            SHEET.due("rest(): still there", x.rest(), 0);
            SHEET.holds("read() of " + texts[i], x.read() <= -10);
            SHEET.due("fault() of " + texts[i], x.fault(), i + 1);
            Refused.allAnswerNo(SHEET, x);
            SHEET.due("cut(1): THE TAPE is empty", x.cut(1), NeedSteps.BAD);
            Sheet.feed(x, "main=2;");
            SHEET.due("read()", x.read(), 1);
            SHEET.due("state()", x.state(), 0);
            SHEET.due("count(4)", x.count(4), 0);
        }
    }

    private static void latestFault() {
        SHEET.sentence("Promise 5: fault", "The FAULT of the latest read(); 0: it had none, or none was asked.");
        NeedSteps x = new NeedSteps();
        SHEET.due("fault(): none was asked", x.fault(), 0);
        Sheet.feed(x, "main=+;");
        SHEET.due("fault(): not read", x.fault(), 0);
        x.read();
        SHEET.due("fault()", x.fault(), 1);
        Sheet.feed(x, "f=1;");
        x.cut(4);
        SHEET.due("fault(): of the latest read()", x.fault(), 1);
        x.read();
        SHEET.due("fault()", x.fault(), 6);
        Sheet.feed(x, "main=quo 1 0;");
        x.read();
        SHEET.due("fault(): it had none", x.fault(), 0);
        x.step(9);
        SHEET.due("error()", x.error(), 3);
        SHEET.due("fault(): an ERROR is none", x.fault(), 0);
        x.read();
        SHEET.due("fault() of nothing", x.fault(), 2);
        // a long text's FAULT is not found again in a shorter one
        Sheet.feed(x, "main=add 1(add 2(add 3(add 4 y)));");
        x.read();
        SHEET.due("fault() of the long one", x.fault(), 5);
        Sheet.feed(x, "main=1;");
        SHEET.due("read() of the short one", x.read(), 1);
        SHEET.due("fault() of the short one", x.fault(), 0);
    }
}
