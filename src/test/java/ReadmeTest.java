import java.io.IOException;
import java.lang.reflect.Method;
import java.nio.file.Files;
import java.nio.file.Path;
import java.util.ArrayList;
import java.util.Arrays;
import java.util.List;
import java.util.regex.Matcher;
import java.util.regex.Pattern;

/** The calls in README.md, done one behind the other, answer what stands beside them. */
public final class ReadmeTest {
    private static final Sheet SHEET = new Sheet("readme");
    private static final Pattern LINE = Pattern.compile("^(x\\..*\\));\\s*// (-?\\d+)\\b.*$");
    private static final Pattern CALL = Pattern.compile("^x\\.(\\w+)\\((.*)\\)$");

    public static void main(String[] args) throws IOException, ReflectiveOperationException {
        NeedSteps x = new NeedSteps();
        List<String> named = new ArrayList<>();
        boolean java = false;
        String readme = Files.readString(Path.of("README.md"));
        for (String line : readme.split("\n")) {
            java = line.startsWith("```") ? line.equals("```java") : java;
            if (java && line.startsWith("x.")) {
                Matcher matcher = LINE.matcher(line);
                SHEET.holds("an answer stands beside " + line, matcher.matches());
                if (matcher.matches()) {
                    SHEET.due(matcher.group(1), answer(x, matcher.group(1)), Long.parseLong(matcher.group(2)));
                    named.add(matcher.group(1));
                }
            }
        }
        SHEET.holds("there are calls", named.size() > 20);
        for (Method method : NeedSteps.class.getMethods()) {
            if (method.getDeclaringClass() == NeedSteps.class) {
                SHEET.holds("README.md tells " + method.getName(), readme.contains("| `" + method.getName() + "("));
            }
        }
        SHEET.end();
    }

    /** A number, or a call whose arguments are such. */
    private static int answer(NeedSteps x, String words) throws ReflectiveOperationException {
        Matcher call = CALL.matcher(words);
        if (!call.matches()) {
            return Integer.decode(words);
        }
        List<Object> given = new ArrayList<>();
        for (String one : call.group(2).isEmpty() ? new String[0] : call.group(2).split(", ")) {
            given.add(answer(x, one));
        }
        Class<?>[] types = new Class<?>[given.size()];
        Arrays.fill(types, int.class);
        return (int) NeedSteps.class.getMethod(call.group(1), types).invoke(x, given.toArray());
    }
}
