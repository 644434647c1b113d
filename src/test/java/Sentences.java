import java.io.IOException;
import java.nio.file.Files;
import java.nio.file.Path;
import java.util.LinkedHashMap;
import java.util.Map;
import java.util.regex.Matcher;
import java.util.regex.Pattern;

/**
 * The sentences of the document, from "What it is" to promise 19, and which of their words a run of calls tests. A
 * run names the section ("What it is", "Terms", or a promise's number) and quotes the words; words that do not
 * stand there are told as a fault, and so is each part of a sentence that no run quotes.
 */
final class Sentences {
    private static final Path DOCUMENT = Path.of("../shared/DOC.md");
    private static final Pattern PART = Pattern.compile("(?:[^.;:(),]|\\.\\.)+");

    private final Map<String, String> texts = new LinkedHashMap<>();
    private final Map<String, boolean[]> quoted = new LinkedHashMap<>();

    Sentences() throws IOException {
        for (String section : Files.readString(DOCUMENT).split("\n## ")) {
            int end = section.indexOf('\n');
            String title = section.substring(0, end);
            // A promise begins with its signature between back quotes, which FaceTest looks at.
            String text = section.substring(end).replaceFirst("^\\s*`[^`]*`: ", "").strip();
            if (title.equals("What it is")) {
                // Ahead of its sign for the first sentence stands what the whole is about.
                add("What it is", text.substring(text.indexOf("======== 1 ") + "======== 1 ".length()));
            } else if (title.equals("Terms")) {
                add("Terms", text);
            } else if (title.startsWith("Promise ")) {
                add(title.substring("Promise ".length(), title.indexOf(':')), text);
            }
        }
    }

    private void add(String section, String text) {
        texts.put(section, text);
        quoted.put(section, new boolean[text.length()]);
    }

    void test(String section, String words, String lines) {
        String text = texts.getOrDefault(section, "");
        int at = text.indexOf(words);
        if (at < 0) {
            Script.tell("section " + section + " of the document does not say: " + words);
        }
        for (; at >= 0; at = text.indexOf(words, at + 1)) {
            for (int i = at; i < at + words.length(); i++) {
                quoted.get(section)[i] = true;
            }
        }
        Script.run(section + ", " + words, lines);
    }

    void allAreQuoted() {
        if (texts.size() != 21) {
            Script.tell("the document has " + texts.keySet() + ", due are What it is, Terms and 19 promises");
        }
        for (String section : texts.keySet()) {
            Matcher part = PART.matcher(texts.get(section));
            while (part.find()) {
                if (!isQuoted(section, part.start(), part.end())) {
                    Script.tell("no run of section " + section + " quotes: " + part.group().strip());
                }
            }
        }
    }

    private boolean isQuoted(String section, int from, int to) {
        String text = texts.get(section);
        for (int i = from; i < to; i++) {
            if (!Character.isWhitespace(text.charAt(i)) && !quoted.get(section)[i]) {
                return false;
            }
        }
        return true;
    }
}
