import java.io.IOException;
import java.nio.file.Files;
import java.nio.file.Path;
import java.util.ArrayList;
import java.util.LinkedHashMap;
import java.util.List;
import java.util.Map;
import java.util.TreeMap;
import java.util.regex.Matcher;
import java.util.regex.Pattern;
import java.util.stream.Stream;

/**
 * Holds the sentences that the tests say they are for against DOC.md: each stands there, under
 * its heading, and of the promises 1 to 20 and the Terms there is none without a test.
 */
public final class SentenceTest {
    private static final Sheet SHEET = new Sheet("sentences");
    private static final Pattern SAID =
        Pattern.compile("\\.sentence\\(\\s*\"((?:[^\"\\\\]|\\\\.)*)\",\\s*\"((?:[^\"\\\\]|\\\\.)*)\"\\);");

    public static void main(String[] args) throws IOException {
        Map<String, String> document = headings(Files.readString(Path.of("../shared/DOC.md")));
        Map<String, List<String>> said = said();
        for (Map.Entry<String, List<String>> entry : said.entrySet()) {
            String text = document.getOrDefault(entry.getKey(), "");
            SHEET.holds("there is a heading " + entry.getKey(), !text.isEmpty());
            for (String words : entry.getValue()) {
                SHEET.holds("under " + entry.getKey() + " stands: " + words, text.contains(words));
            }
        }
        int promises = 0;
        for (Map.Entry<String, String> entry : document.entrySet()) {
            boolean promise = entry.getKey().startsWith("Promise ");
            promises += promise ? 1 : 0;
            if (promise || entry.getKey().equals("Terms")) {
                List<String> words = said.getOrDefault(entry.getKey(), List.of());
                SHEET.same("without a test in " + entry.getKey(), left(entry.getValue(), words), "");
            }
        }
        SHEET.due("promises", promises, 20);
        SHEET.end();
    }

    /** Each heading's text, with one blank wherever there are blanks; calls' own lines are left out. */
    private static Map<String, String> headings(String document) {
        Map<String, String> headings = new LinkedHashMap<>();
        for (String part : document.split("(?m)^## ")) {
            int end = part.indexOf('\n');
            String text = part.substring(end + 1).replaceAll("(?m)^```.*$", " ").replaceAll("\\s+", " ");
            headings.put(part.substring(0, end).trim(), text.replaceAll("`[^`]*\\([^`]*\\)[^`]*`: ", " "));
        }
        return headings;
    }

    /** By heading, what the tests are for. */
    private static Map<String, List<String>> said() throws IOException {
        Map<String, List<String>> said = new TreeMap<>();
        List<Path> files;
        try (Stream<Path> found = Files.list(Path.of("src/test/java"))) {
            files = found.sorted().toList();
        }
        for (Path file : files) {
            Matcher matcher = SAID.matcher(Files.readString(file));
            while (matcher.find()) {
                said.computeIfAbsent(matcher.group(1), k -> new ArrayList<>()).add(matcher.group(2));
            }
        }
        return said;
    }

    /** What is left of a text when all these words are gone from it, but for its signs and blanks. */
    private static String left(String text, List<String> words) {
        StringBuilder rest = new StringBuilder(text);
        for (String one : words) {
            for (int at = text.indexOf(one); at >= 0; at = text.indexOf(one, at + 1)) {
                for (int i = at; i < at + one.length(); i++) {
                    rest.setCharAt(i, ' ');
                }
            }
        }
        return rest.toString().replaceAll("[^A-Za-z0-9]+", " ").trim();
    }
}
