import java.io.IOException;
import java.nio.file.Files;
import java.nio.file.Path;
import java.util.List;
import java.util.regex.Matcher;
import java.util.regex.Pattern;

/** Those rules of LANGUAGE.md that can be read off the text; run from the project's folder, as .ci/run does. */
public final class LanguageTest {
    private static final Path SOURCE = Path.of("src/main/java/TimerRows.java");
    private static final List<String> FORBIDDEN = List.of("->", "::", "Exact\\b", "\\bfinally\\b", "\\bsynchronized\\b",
            "\\bassert\\b", "\\bpackage\\b", "\\bstatic\\s*\\{", "\\bprotected\\b", "\\bvar\\b", "\\bdouble\\b",
            "\\bfloat\\b", "\\bcatch\\b", "\\btry\\b", "\\bequals\\b", "\\bhashCode\\b", "\\btoString\\b",
            "\\bSystem\\.(?!arraycopy\\b)", "\\bMath\\.(?!floorMod\\b)", "\\bArrays\\.(?!copyOf\\b|fill\\b)",
            "\\bimport (?!java\\.util\\.Arrays;|java\\.util\\.NoSuchElementException;)",
            "\\bthrow new (?!IllegalArgumentException\\b|IllegalStateException\\b|NoSuchElementException\\b)");
    private static final int LONGEST_METHOD = 60;
    private static final int MOST_PARAMETERS = 7;

    private LanguageTest() {
    }

    public static void main(String[] args) throws IOException {
        String text = Files.readString(SOURCE);
        for (int i = 0; i < text.length(); i++) {
            if (text.charAt(i) > 126) {
                Script.tell("a sign above 126 at " + i);
            }
        }
        String code = text.replaceAll("(?s)/\\*.*?\\*/", "").replaceAll("//[^\n]*", "")
                .replaceAll("\"[^\"\n]*\"", "\"\"");
        for (String forbidden : FORBIDDEN) {
            Matcher found = Pattern.compile(forbidden).matcher(code);
            if (found.find()) {
                Script.tell("the text has what the rules forbid: " + forbidden);
            }
        }
        methods(text);
        Script.end();
    }

    private static void methods(String text) {
        Pattern head = Pattern.compile("\\n( +)[\\w \\[\\]]*\\w+\\(([\\w ,\\[\\]]*)\\)[\\w ,\\n]*\\{\\n");
        Matcher found = head.matcher(text);
        int count = 0;
        while (found.find()) {
            count++;
            int end = text.indexOf("\n" + found.group(1) + "}", found.end() - 1);
            long lines = text.substring(found.start() + 1, end).lines().count() + 1;
            String name = found.group().strip();
            if (lines > LONGEST_METHOD) {
                Script.tell(lines + " lines: " + name);
            }
            if (found.group(2).split(",").length > MOST_PARAMETERS) {
                Script.tell("too many parameters: " + name);
            }
        }
        if (count < 18) {
            Script.tell("only " + count + " methods were found");
        }
    }
}
