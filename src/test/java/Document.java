import java.io.IOException;
import java.nio.file.Files;
import java.nio.file.Path;
import java.util.LinkedHashMap;
import java.util.Map;

/** The sections of the document that promise something, and which of their words the tests have quoted. */
final class Document {
    private final Map<String, String> texts = new LinkedHashMap<>();
    private final Map<String, boolean[]> quoted = new LinkedHashMap<>();

    Document(Path file) throws IOException {
        String section = "";
        for (String line : Files.readAllLines(file)) {
            if (line.startsWith("## ")) {
                section = line.substring(3).replaceFirst("^(Promise \\d+): .*", "$1");
            } else if (isPromised(section)) {
                texts.merge(section, wordsOf(section, line), (before, more) -> plain(before + " " + more));
            }
        }
        texts.forEach((name, text) -> quoted.put(name, new boolean[text.length()]));
    }

    private static boolean isPromised(String section) {
        return section.equals("What it is") || section.equals("Terms") || section.startsWith("Promise ");
    }

    /** Without the signs of the layout; a promise's signature is the face's, which LanguageTest looks at. */
    private static String wordsOf(String section, String line) {
        if (line.startsWith("```")) {
            return "";
        }
        String words = section.startsWith("Promise ") ? line.replaceFirst("^`[^`]*`: ", "") : line;
        return plain(words.replaceFirst("^- ", ""));
    }

    private static String plain(String text) {
        return text.replace("`", "").replaceAll("\\s+", " ").strip();
    }

    void quote(String section, String sentence) {
        String text = texts.getOrDefault(section, "");
        String words = plain(sentence);
        int at = text.indexOf(words);
        Checks.holds("the document says in " + section + ": " + words, at >= 0);
        for (; at >= 0; at = text.indexOf(words, at + 1)) {
            java.util.Arrays.fill(quoted.get(section), at, at + words.length(), true);
        }
    }

    void dueAllQuoted() {
        Checks.due("sections of the document", texts.size(), 40);
        texts.forEach((section, text) -> {
            StringBuilder left = new StringBuilder();
            for (int i = 0; i < text.length(); i++) {
                boolean isLeft = Character.isLetterOrDigit(text.charAt(i)) && !quoted.get(section)[i];
                left.append(isLeft ? text.charAt(i) : ' ');
            }
            Checks.holds("each sentence of " + section + " has a test; not: " + plain(left.toString()),
                    plain(left.toString()).isEmpty());
        });
    }
}
