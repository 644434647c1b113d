import java.io.IOException;
import java.nio.file.Files;
import java.nio.file.Path;
import java.util.regex.Matcher;
import java.util.regex.Pattern;

/** What README.md shows holds: its runs answer what stands behind them, and it tells of every call of the face. */
public final class ReadmeTest {
    private static final Path README = Path.of("README.md");
    private static final Pattern BLOCK = Pattern.compile("(?s)```java\n(.*?)```");
    private static final Pattern CALL = Pattern.compile("x\\.(\\w+\\([^)]*\\));\\s*// ([\\w.-]+)");
    private static final Pattern NAME = Pattern.compile("(\\w+\\([^)]*\\))");

    private ReadmeTest() {
    }

    public static void main(String[] args) throws IOException {
        String readme = Files.readString(README);
        theRuns(readme);
        theCalls(readme);
        Script.end();
    }

    private static void theRuns(String readme) {
        Matcher block = BLOCK.matcher(readme);
        int runs = 0;
        while (block.find()) {
            runs++;
            StringBuilder lines = new StringBuilder();
            for (String line : block.group(1).split("\n")) {
                Matcher call = CALL.matcher(line);
                if (call.find()) {
                    String plain = call.group(1).replaceAll("(\\d)L\\b", "$1");
                    lines.append(plain).append(' ').append(call.group(2)).append('\n');
                } else if (line.contains("x.")) {
                    Script.tell("README shows a call without its answer: " + line.strip());
                }
            }
            Script.run("README, run " + runs, lines.toString());
        }
        if (runs == 0) {
            Script.tell("README shows no run of calls");
        }
    }

    /** Each call stands in README as in the document, with the names of its parameters, but without types. */
    private static void theCalls(String readme) throws IOException {
        for (String member : new Face().members()) {
            Matcher name = NAME.matcher(member);
            if (name.find()) {
                String call = name.group(1).replaceAll("\\w+ (\\w+)(?=[,)])", "$1");
                if (!readme.contains("`" + call + "`")) {
                    Script.tell("README does not tell of " + call);
                }
            }
        }
    }
}
