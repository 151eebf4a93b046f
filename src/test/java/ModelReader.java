import java.util.ArrayList;
import java.util.HashSet;
import java.util.List;
import java.util.Set;
import java.util.regex.Matcher;
import java.util.regex.Pattern;

/** The document's TOKENS, PROGRAM and FAULTS, read into a tree: the Model's reader. */
final class ModelReader {
    static final List<String> PRIMITIVES = List.of("add", "sub", "mul", "quo", "less", "same", "if", "cons", "nil",
        "head", "tail", "empty", "seq");
    static final List<Integer> NEEDS = List.of(2, 2, 2, 2, 2, 2, 3, 2, 0, 1, 1, 1, 2);

    enum Kind { NUMBER, NAME, PRIMITIVE, SIGN, NONE, END }

    record Token(Kind kind, String text, int place) {
        boolean is(String sign) {
            return kind == Kind.SIGN && text.equals(sign);
        }
    }

    interface Expr { }

    record Atom(Token token) implements Expr { }

    record Atoms(List<Expr> atoms) implements Expr { }

    record Binding(String name, Expr expr) { }

    record Let(List<Binding> bindings, Expr expr) implements Expr { }

    record Definition(String name, List<String> parameters, Expr expr) { }

    static final class Fault extends RuntimeException {
        private static final long serialVersionUID = 1;
        final int code;
        final int place;

        Fault(int code, int place) {
            this.code = code;
            this.place = place;
        }
    }

    private final List<Token> tokens = new ArrayList<>();
    private int at = 0;

    ModelReader(String text) {
        Matcher matcher = Pattern.compile("[ \n]+|[0-9]+|[a-z][a-z0-9]*|.", Pattern.DOTALL).matcher(text);
        while (matcher.find()) {
            String word = matcher.group();
            if (!word.matches("[ \n]+")) {
                tokens.add(new Token(kind(word), word, matcher.start()));
            }
        }
        tokens.add(new Token(Kind.END, "", text.length()));
    }

    /** let and in are taken as signs: they are no NAMES. */
    private static Kind kind(String word) {
        if (PRIMITIVES.contains(word)) {
            return Kind.PRIMITIVE;
        }
        if (List.of("let", "in", "=", ";", "(", ")").contains(word)) {
            return Kind.SIGN;
        }
        if (word.matches("[0-9]{1,9}")) {
            return Kind.NUMBER;
        }
        return word.matches("[a-z][a-z0-9]{0,7}") ? Kind.NAME : Kind.NONE;
    }

    List<Definition> program() {
        List<Definition> program = new ArrayList<>();
        Set<String> told = new HashSet<>();
        do {
            Token name = name(program.size() == 20, told);
            List<String> parameters = new ArrayList<>();
            Set<String> own = new HashSet<>();
            while (token().kind == Kind.NAME) {
                parameters.add(name(parameters.size() == 8, own).text);
            }
            take("=");
            Expr expr = expr(0);
            take(";");
            program.add(new Definition(name.text, parameters, expr));
        } while (token().kind != Kind.END);
        for (Definition definition : program) {
            Set<String> names = new HashSet<>(told);
            names.addAll(definition.parameters);
            checkTold(definition.expr, names);
        }
        boolean main = program.stream().anyMatch(d -> d.name.equals("main") && d.parameters.isEmpty());
        if (!main) {
            throw new Fault(6, token().place);
        }
        return program;
    }

    private Token token() {
        return tokens.get(at);
    }

    private Fault cannotStand() {
        return new Fault(token().kind == Kind.NONE ? 1 : 2, token().place);
    }

    private Token take(String sign) {
        if (!token().is(sign)) {
            throw cannotStand();
        }
        return tokens.get(at++);
    }

    /** A NAME that is told here: not one too many, not one that these have. */
    private Token name(boolean tooMany, Set<String> these) {
        if (token().kind != Kind.NAME) {
            throw cannotStand();
        }
        if (tooMany) {
            throw new Fault(3, token().place);
        }
        if (!these.add(token().text)) {
            throw new Fault(4, token().place);
        }
        return tokens.get(at++);
    }

    private Expr expr(int open) {
        if (token().is("let")) {
            refuse(open == 12);
            at++;
            List<Binding> bindings = new ArrayList<>();
            Set<String> own = new HashSet<>();
            do {
                String name = name(bindings.size() == 6, own).text;
                take("=");
                bindings.add(new Binding(name, expr(open + 1)));
                take(";");
            } while (!token().is("in"));
            take("in");
            return new Let(bindings, expr(open + 1));
        }
        List<Expr> atoms = new ArrayList<>();
        while (token().is("(") || List.of(Kind.NUMBER, Kind.PRIMITIVE, Kind.NAME).contains(token().kind)) {
            refuse(atoms.size() == 10);
            if (token().is("(")) {
                refuse(open == 12);
                at++;
                atoms.add(expr(open + 1));
                take(")");
            } else {
                atoms.add(new Atom(tokens.get(at++)));
            }
        }
        if (atoms.isEmpty()) {
            throw cannotStand();
        }
        return new Atoms(atoms);
    }

    private void refuse(boolean tooMany) {
        if (tooMany) {
            throw new Fault(3, token().place);
        }
    }

    /** In the text's order, so the first NAME that is not told is the one that is thrown. */
    private static void checkTold(Expr expr, Set<String> told) {
        if (expr instanceof Atom atom && atom.token.kind == Kind.NAME && !told.contains(atom.token.text)) {
            throw new Fault(5, atom.token.place);
        }
        if (expr instanceof Atoms atoms) {
            atoms.atoms.forEach(a -> checkTold(a, told));
        }
        if (expr instanceof Let let) {
            Set<String> names = new HashSet<>(told);
            let.bindings.forEach(b -> names.add(b.name));
            let.bindings.forEach(b -> checkTold(b.expr, names));
            checkTold(let.expr, names);
        }
    }
}
