import java.io.IOException;
import java.lang.reflect.Constructor;
import java.lang.reflect.Field;
import java.lang.reflect.Method;
import java.lang.reflect.Modifier;
import java.nio.file.Files;
import java.nio.file.Path;
import java.util.Arrays;
import java.util.Set;
import java.util.TreeSet;

/** The public face: just what the document tells, and nothing more. */
public final class FaceTest {
    private static final Sheet SHEET = new Sheet("face");
    private static final Set<String> WANT = new TreeSet<>(Set.of("int BAD", "int FULL", "int NO", "new []",
        "int feed [int, int, int, int, int]", "int cut [int]", "int read []", "int fault []", "int step [int]",
        "int state []", "int error []", "int next []", "int stopAt [int]", "int back [int]", "int sweep []",
        "int count [int]", "int node [int, int]", "int top [int]", "int why [int]", "int way [int, int]",
        "int profile [int, int]", "int rest []", "int share [] throws ArithmeticException"));

    public static void main(String[] args) throws IOException {
        SHEET.sentence("The public face", "public final class NeedSteps {");
        members();
        SHEET.holds("final", Modifier.isFinal(NeedSteps.class.getModifiers()));
        SHEET.holds("public", Modifier.isPublic(NeedSteps.class.getModifiers()));
        SHEET.sentence("The public face", "public static final int BAD = -1, FULL = -2, NO = -3;");
        SHEET.due("BAD", NeedSteps.BAD, -1);
        SHEET.due("FULL", NeedSteps.FULL, -2);
        SHEET.due("NO", NeedSteps.NO, -3);
        order(Files.readString(Path.of("src/main/java/NeedSteps.java")));
        SHEET.end();
    }

    private static void members() {
        Set<String> got = new TreeSet<>();
        for (Field field : NeedSteps.class.getDeclaredFields()) {
            if (!Modifier.isPrivate(field.getModifiers())) {
                got.add(field.getType() + " " + field.getName());
                SHEET.due("static final " + field.getName(), field.getModifiers(),
                    Modifier.PUBLIC | Modifier.STATIC | Modifier.FINAL);
            }
        }
        for (Constructor<?> maker : NeedSteps.class.getDeclaredConstructors()) {
            if (!Modifier.isPrivate(maker.getModifiers())) {
                got.add("new " + Arrays.toString(maker.getParameterTypes()));
                SHEET.due("public", maker.getModifiers(), Modifier.PUBLIC);
            }
        }
        Set<String> hidden = new TreeSet<>();
        for (Method method : NeedSteps.class.getDeclaredMethods()) {
            if (Modifier.isPrivate(method.getModifiers())) {
                hidden.add(method.getName());
            } else {
                got.add(line(method));
                SHEET.due("public " + method.getName(), method.getModifiers(), Modifier.PUBLIC);
            }
        }
        SHEET.same("the members", got.toString(), WANT.toString());
        for (String name : hidden) {
            SHEET.holds("a private method " + name, WANT.stream().noneMatch(s -> s.split(" ")[1].equals(name)));
        }
        for (Class<?> inside : NeedSteps.class.getDeclaredClasses()) {
            int modifiers = inside.getModifiers();
            SHEET.holds(inside.getName() + " is static and not public",
                Modifier.isStatic(modifiers) && !Modifier.isPublic(modifiers) && !Modifier.isProtected(modifiers));
        }
    }

    private static String line(Method method) {
        StringBuilder line = new StringBuilder(method.getReturnType() + " " + method.getName() + " "
            + Arrays.toString(method.getParameterTypes()));
        for (Class<?> thrown : method.getExceptionTypes()) {
            line.append(" throws ").append(thrown.getSimpleName());
        }
        return line.toString();
    }

    /** In the document's order, with what the interface says ahead of the two groups. */
    private static void order(String text) {
        SHEET.sentence("Terms", "Ahead of the calls `step`, `state`, `error`, `next`, `stopAt`, `back`, `sweep` the interface says: ---- steps.");
        String[] lines = {"int feed(", "int cut(", "int read(", "int fault(", "---- steps", "int step(", "int state(",
            "int error(", "int next(", "int stopAt(", "int back(", "int sweep(", "---- what there is", "int count(",
            "int node(", "int top(", "int why(", "int way(", "int profile(", "int rest(", "int share("};
        int at = 0;
        for (String line : lines) {
            if (line.startsWith("---- what")) {
                SHEET.sentence("Terms", "Ahead of the calls `count`, `node`, `top`, `why`, `way`, `profile`, `rest`, `share` the interface says: ---- what there is.");
            }
            int next = text.indexOf(line, at);
            SHEET.holds(line + " in its place", next > 0);
            at = Math.max(at, next);
        }
    }
}
