import java.io.IOException;
import java.nio.file.Files;
import java.nio.file.Path;
import java.util.ArrayList;
import java.util.BitSet;
import java.util.List;
import java.util.Map;
import java.util.TreeMap;
import java.util.regex.Matcher;
import java.util.regex.Pattern;

/** The document by its parts, and which of its words the tests hold the class to. */
final class Document {
    private static final Path PLACE = Path.of("../shared/DOC.md");

    private final Map<String, String> parts = new TreeMap<>();
    private final Map<String, BitSet> tested = new TreeMap<>();

    Document() {
        String text = "";
        try {
            text = Files.readString(PLACE);
        } catch (IOException e) {
            System.out.println(PLACE + " can't be read: what the tests quote is not looked up");
        }
        if (!text.isEmpty()) {
            cut(text);
        }
    }

    /** "0" what it is, "T1" to "T4" the terms, "1" to "46" the promises. */
    private void cut(String text) {
        Matcher use = Pattern.compile("(An object is used .*?)\n").matcher(text);
        if (use.find()) {
            keep("0", use.group(1));
        }
        String terms = text.substring(text.indexOf("## Terms") + 8, text.indexOf("## Promise 1:"));
        String[] four = terms.replace("```text", "").replace("```", "").split("==== \\d\\.");
        for (int i = 0; i < four.length; i++) {
            keep("T" + (i + 1), four[i]);
        }
        Matcher promise = Pattern.compile("(?s)## Promise (\\d+):[^\n]*\n\n`[^`]*`: (.*?)\n\n(?=##)").matcher(text);
        while (promise.find()) {
            keep(promise.group(1), promise.group(2));
        }
    }

    private void keep(String part, String words) {
        parts.put(part, plain(words));
        tested.put(part, new BitSet());
    }

    private static String plain(String words) {
        return words.replaceAll("\\s+", " ").trim();
    }

    /** Whether these words stand in that part (or the document isn't there to be asked). */
    boolean says(String part, String words) {
        if (parts.isEmpty()) {
            return true;
        }
        String text = parts.getOrDefault(part, "");
        String quote = plain(words);
        int at = text.indexOf(quote);
        boolean found = at >= 0 && !quote.isEmpty();
        while (at >= 0 && found) {
            tested.get(part).set(at, at + quote.length());
            at = text.indexOf(quote, at + 1);
        }
        return found;
    }

    /** The words that no test has quoted. */
    List<String> untested() {
        List<String> rest = new ArrayList<>();
        for (Map.Entry<String, String> part : parts.entrySet()) {
            StringBuilder left = new StringBuilder();
            for (int i = 0; i < part.getValue().length(); i++) {
                boolean is = tested.get(part.getKey()).get(i);
                left.append(is ? '\n' : part.getValue().charAt(i));
            }
            for (String words : left.toString().split("\n+")) {
                if (words.matches(".*[A-Za-z0-9].*")) {
                    rest.add(part.getKey() + ": " + words.trim());
                }
            }
        }
        return rest;
    }

    int size() {
        return parts.size();
    }
}
