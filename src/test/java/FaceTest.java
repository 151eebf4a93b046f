import java.lang.reflect.Constructor;
import java.lang.reflect.Field;
import java.lang.reflect.Method;
import java.lang.reflect.Modifier;
import java.util.Set;
import java.util.TreeSet;

/** The public face: just what the document tells, and nothing more. */
public final class FaceTest {
    public static void main(String[] args) {
        Sheet sheet = new Sheet("face");
        Set<String> want = new TreeSet<>(Set.of("int BAD", "int FULL", "int NO", "new 0", "int feed 5",
            "int cut 1", "int read 0", "int fault 0", "int step 1", "int state 0", "int error 0",
            "int next 0", "int stopAt 1", "int back 1", "int sweep 0", "int count 1", "int node 2",
            "int top 1", "int why 1", "int way 2", "int profile 2", "int rest 0", "int share 0"));
        Set<String> got = new TreeSet<>();
        for (Field field : NeedSteps.class.getDeclaredFields()) {
            if (!Modifier.isPrivate(field.getModifiers())) {
                got.add(field.getType() + " " + field.getName());
            }
        }
        for (Constructor<?> maker : NeedSteps.class.getDeclaredConstructors()) {
            if (!Modifier.isPrivate(maker.getModifiers())) {
                got.add("new " + maker.getParameterCount());
            }
        }
        Set<String> hidden = new TreeSet<>();
        for (Method method : NeedSteps.class.getDeclaredMethods()) {
            if (Modifier.isPrivate(method.getModifiers())) {
                hidden.add(method.getName());
            } else {
                got.add(method.getReturnType() + " " + method.getName() + " "
                    + method.getParameterCount());
            }
        }
        sheet.holds("the members are " + got, got.equals(want));
        for (String name : hidden) {
            sheet.holds("a private method " + name, want.stream().noneMatch(s -> s.split(" ")[1].equals(name)));
        }
        sheet.holds("final", Modifier.isFinal(NeedSteps.class.getModifiers()));
        sheet.due("BAD", NeedSteps.BAD, -1);
        sheet.due("FULL", NeedSteps.FULL, -2);
        sheet.due("NO", NeedSteps.NO, -3);
        sheet.end();
    }
}
