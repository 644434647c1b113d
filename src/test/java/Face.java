import java.io.IOException;
import java.nio.file.Files;
import java.nio.file.Path;
import java.util.ArrayList;
import java.util.List;
import java.util.regex.Matcher;
import java.util.regex.Pattern;

/** The public face as ../shared/DOC.md writes it: under "The public face", and again at the head of each promise. */
final class Face {
    private static final Path DOCUMENT = Path.of("../shared/DOC.md");
    private static final Pattern BLOCK = Pattern.compile("(?s)## The public face\\s*```java\n(.*?)```");
    private static final Pattern PROMISE = Pattern.compile("(?m)^## Promise (\\d+): .*\n\n`([^`]*)`");

    private final List<String> members = new ArrayList<>();
    private final List<String> promised = new ArrayList<>();

    Face() throws IOException {
        String document = Files.readString(DOCUMENT);
        Matcher block = BLOCK.matcher(document);
        if (block.find()) {
            for (String line : block.group(1).split("\n")) {
                String member = line.strip();
                if (member.endsWith(";")) {
                    members.add(member.substring(0, member.length() - 1));
                }
            }
        }
        Matcher promise = PROMISE.matcher(document);
        while (promise.find()) {
            promised.add("public " + promise.group(2));
        }
    }

    /** Constants, constructors and methods, without the sign at their end. */
    List<String> members() {
        return members;
    }

    /** What the promises say at their heads, in their order. */
    List<String> promised() {
        return promised;
    }

    /** Constructors and methods, in the words of java.lang.reflect: types alone, no names of parameters. */
    List<String> calls() {
        List<String> calls = new ArrayList<>();
        for (String member : members) {
            if (member.contains("(")) {
                calls.add(member.replaceAll("\\b(int|long|boolean) \\w+(?=[,)])", "$1").replace(", ", ","));
            }
        }
        return calls;
    }
}
