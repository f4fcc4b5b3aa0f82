import java.io.IOException;
import java.nio.file.Files;
import java.nio.file.Path;
import java.util.ArrayList;
import java.util.LinkedHashMap;
import java.util.List;
import java.util.Map;
import java.util.regex.Matcher;
import java.util.regex.Pattern;

/**
 * The document's sentences: its terms I to VII, its promises 1 to 74 and what it says of
 * calls ("what"). Tests quote it; words that no test quotes are found in the end.
 */
final class Document {
    private static final Path FILE = Path.of("../shared/DOC.md");

    private final Map<String, String> sections = new LinkedHashMap<>();
    private final Map<String, List<String>> quotes = new LinkedHashMap<>();

    Document() throws IOException {
        String text = Files.readString(FILE);
        put("what", between(text, "## What it is", "## The public face"));
        String terms = between(text, "## Terms", "## Promise 1:") + "\n";
        Matcher term = Pattern.compile("(?ms)^([IV]+)\\. (.*?)(?=^[IV]+\\. |\\z)").matcher(terms);
        while (term.find()) {
            put(term.group(1), term.group(2).replace("```text", "").replace("```", ""));
        }
        Matcher promise = Pattern.compile("(?ms)^## Promise (\\d+): [^\n]*\\s*`[^`]*`: (.*?)(?=^## )").matcher(text);
        while (promise.find()) {
            put(promise.group(1), promise.group(2));
        }
    }

    private static String between(String text, String first, String last) {
        int start = text.indexOf(first) + first.length();
        return text.substring(start, text.indexOf(last, start));
    }

    private void put(String section, String text) {
        sections.put(section, text.replaceAll("\\s+", " ").trim());
        quotes.put(section, new ArrayList<>());
    }

    int size() {
        return sections.size();
    }

    /** Whether a section has these words, which are marked as quoted. */
    boolean quote(String section, String words) {
        if (!sections.containsKey(section) || !sections.get(section).contains(words)) {
            return false;
        }
        quotes.get(section).add(words);
        return true;
    }

    /** What has not been quoted, a row for each section that has such words. */
    List<String> unquoted() {
        List<String> found = new ArrayList<>();
        sections.forEach((section, text) -> {
            String left = text;
            for (String words : quotes.get(section)) {
                left = left.replace(words, "\n");
            }
            if (Pattern.compile("\\w").matcher(left).find()) {
                found.add(section + ": " + left.replaceAll("\n\\W*", "\n").trim().replace("\n", " .. "));
            }
        });
        return found;
    }
}
