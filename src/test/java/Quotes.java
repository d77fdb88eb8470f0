import java.util.Map;
import java.util.TreeMap;
import java.util.regex.Matcher;
import java.util.regex.Pattern;

/** The document's sentences, and which of them a run quotes: "T" are its Terms, a number is a promise. */
final class Quotes {
    private final Map<String, String> texts = new TreeMap<>();
    private final Map<String, boolean[]> quoted = new TreeMap<>();

    Quotes(String document) {
        String terms = between(document, "==== 1 ACCOUNTS", "## The public face") + between(document, "## Terms", "## Promise 1:");
        put("T", terms);
        Matcher promises = Pattern.compile("(?s)## Promise (\\d+):[^\n]*\n+`[^`]*`:(.*?)(?=\n## )").matcher(document);
        while (promises.find()) {
            put(promises.group(1), promises.group(2));
        }
    }

    private static String between(String text, String first, String last) {
        return text.substring(text.indexOf(first), text.indexOf(last));
    }

    private void put(String name, String text) {
        String plain = plain(text.replace("```text", " ").replace("## Terms", " "));
        texts.put(name, plain);
        quoted.put(name, new boolean[plain.length()]);
    }

    private static String plain(String text) {
        return text.replaceAll("[`=\\s]+", " ").trim();
    }

    int promises() {
        return texts.size() - 1;
    }

    /** Nothing, or what is wrong with the quotation. */
    String quote(String name, String sentence) {
        String text = texts.get(name);
        String part = plain(sentence);
        if (text == null || part.isEmpty() || !text.contains(part)) {
            return "the document does not say so";
        }
        int at = text.indexOf(part);
        if (text.indexOf(part, at + 1) >= 0) {
            return "the document says so more than once";
        }
        for (int i = at; i < at + part.length(); i++) {
            quoted.get(name)[i] = true;
        }
        return "";
    }

    /** The words that no run quotes, each behind its promise's number. */
    String unquoted() {
        StringBuilder left = new StringBuilder();
        for (Map.Entry<String, String> entry : texts.entrySet()) {
            StringBuilder words = new StringBuilder();
            for (int i = 0; i < entry.getValue().length(); i++) {
                words.append(quoted.get(entry.getKey())[i] ? '|' : entry.getValue().charAt(i));
            }
            String rest = words.toString().replaceAll("\\|+", " | ").trim();
            if (rest.matches("(?s).*\\w.*")) {
                left.append(entry.getKey()).append(": ").append(rest).append('\n');
            }
        }
        return left.toString();
    }
}
