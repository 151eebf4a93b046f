import java.io.IOException;
import java.lang.reflect.Field;
import java.lang.reflect.Method;
import java.lang.reflect.Modifier;
import java.nio.file.Files;
import java.nio.file.Path;
import java.util.List;
import java.util.Map;
import java.util.regex.Pattern;

/** What of LANGUAGE.md can be seen in the class's text. */
public final class LanguageTest {
    /** Written by rule number; a rule's own words say what each is about. */
    private static final Map<String, List<String>> RULED_OUT = Map.of(
        "2", List.of("->", "::"),
        "4", List.of("^import", "Exact\\("),
        "5", List.of("static \\{", "static (?!final)(int|long|boolean|byte|char)(\\[\\])? \\w+ ?[=;]"),
        "6", List.of("\\btry\\b", "\\bcatch\\b", "\\bfinally\\b", "\\bsynchronized\\b", "\\bassert\\b"),
        "9", List.of("while \\(true\\)", "for \\(;;"),
        "13", List.of("Thread", "Random", "nanoTime", "currentTimeMillis"));

    public static void main(String[] args) throws IOException {
        Sheet sheet = new Sheet("language");
        List<String> lines = Files.readAllLines(Path.of("src/main/java/NeedSteps.java"));
        for (Map.Entry<String, List<String>> rule : RULED_OUT.entrySet()) {
            for (String pattern : rule.getValue()) {
                Pattern ruledOut = Pattern.compile(pattern);
                for (int i = 0; i < lines.size(); i++) {
                    boolean found = ruledOut.matcher(lines.get(i)).find();
                    sheet.holds("rule " + rule.getKey() + ", line " + (i + 1), !found);
                }
            }
        }
        sheet.holds("rule 11: classes", lines.stream().filter(s -> s.matches(".*\\bclass \\w+.*\\{")).count() <= 12);
        sheet.holds("rule 11: methods stay short", longestMethod(lines) <= 60);
        faces(sheet, NeedSteps.class);
        for (Class<?> inside : NeedSteps.class.getDeclaredClasses()) {
            faces(sheet, inside);
        }
        sheet.end();
    }

    private static void faces(Sheet sheet, Class<?> one) {
        int fields = 0;
        for (Field field : one.getDeclaredFields()) {
            boolean shared = Modifier.isStatic(field.getModifiers());
            fields += shared ? 0 : 1;
            sheet.holds("rule 5: " + one.getName() + "." + field.getName() + " is final",
                !shared || Modifier.isFinal(field.getModifiers()));
        }
        sheet.holds("rule 11: fields of " + one.getName(), fields <= 20);
        for (Method method : one.getDeclaredMethods()) {
            sheet.holds("rule 11: parameters of " + one.getName() + "." + method.getName(),
                method.getParameterCount() <= 7);
        }
    }

    /** Members begin and end with the same indent, of 4 or 8 blanks. */
    private static int longestMethod(List<String> lines) {
        int longest = 0;
        for (int i = 0; i < lines.size(); i++) {
            String line = lines.get(i);
            if (line.matches("( {4}| {8})\\S.*\\) .*\\{")) {
                String end = line.replaceAll("\\S.*", "") + "}";
                int j = i;
                while (j < lines.size() && !lines.get(j).equals(end)) {
                    j++;
                }
                longest = Math.max(longest, j - i + 1);
            }
        }
        return longest;
    }
}
