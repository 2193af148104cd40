import java.io.IOException;
import java.nio.file.Files;
import java.nio.file.Path;
import java.util.ArrayList;
import java.util.LinkedHashMap;
import java.util.List;
import java.util.Map;
import java.util.regex.Matcher;
import java.util.regex.Pattern;

/** The document by its parts, and which of its words a test has named. */
final class Document {
    private final Map<String, String> texts = new LinkedHashMap<>();
    private final Map<String, boolean[]> named = new LinkedHashMap<>();

    Document(Path path) throws IOException {
        String all = Files.readString(path).replace("```text", " ").replace("```", " ").replaceAll("\\s+", " ");
        String calls = between(all, "An object is used", "## The public face");
        add("What it is", calls);
        // the first part of the terms begins in "What it is", and goes on under "Terms"
        String terms = between(all, "==== 1 ", " An object is used") + between(all, "## Terms", "Ahead of the calls");
        terms = terms.replace("## Terms", "");
        for (int part = 1; part <= 5; part++) {
            String from = "==== " + part + " ";
            String text = part < 5 ? between(terms, from, "==== " + (part + 1)) : terms.substring(terms.indexOf(from));
            add("Terms " + part, text.substring(from.length()));
        }
        Matcher promise = Pattern.compile("## (Promise \\d+): \\w[^`]*`[^`]*`: (.*?)(?= ## )").matcher(all);
        while (promise.find()) {
            add(promise.group(1), promise.group(2));
        }
    }

    private static String between(String all, String from, String to) {
        int begin = all.indexOf(from);
        return all.substring(begin, all.indexOf(to, begin));
    }

    private void add(String part, String text) {
        texts.put(part, text.trim().replaceAll("\\s+", " "));
        named.put(part, new boolean[texts.get(part).length()]);
    }

    int size() {
        return texts.size();
    }

    /** Marks words as named by a test; whether they stand in that part, and only once. */
    boolean name(String part, String words) {
        String text = texts.get(part);
        int at = text == null ? -1 : text.indexOf(words);
        if (at < 0 || text.indexOf(words, at + 1) >= 0) {
            return false;
        }
        for (int k = at; k < at + words.length(); k++) {
            named.get(part)[k] = true;
        }
        return true;
    }

    /** All words that no test has named. */
    List<String> unnamed() {
        List<String> found = new ArrayList<>();
        for (Map.Entry<String, String> one : texts.entrySet()) {
            StringBuilder rest = new StringBuilder();
            for (int k = 0; k < one.getValue().length(); k++) {
                rest.append(named.get(one.getKey())[k] ? '|' : one.getValue().charAt(k));
            }
            for (String words : rest.toString().split("\\|+")) {
                if (words.matches(".*\\w.*")) {
                    found.add(one.getKey() + ": " + words.trim());
                }
            }
        }
        return found;
    }
}
