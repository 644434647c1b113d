import java.io.IOException;
import java.nio.file.Files;
import java.nio.file.Path;
import java.util.ArrayList;
import java.util.List;
import java.util.concurrent.ExecutorService;
import java.util.concurrent.Executors;
import java.util.concurrent.Future;
import java.util.concurrent.TimeUnit;
import java.util.regex.Matcher;
import java.util.regex.Pattern;

/**
 * Breaks the class in one small place at a time, and tells each broken one that a test does not notice. It is run by
 * hand, behind .ci/run, from the project's folder: java -cp build/own Mutants EdgesTest
 * Some of what it tells is no fault of the test: a break that no call can see.
 */
public final class Mutants {
    private static final Path SOURCE = Path.of("src/main/java/TimerRows.java");
    private static final Path TESTS = Path.of("build/own");
    private static final Path ROOM = Path.of("build/mutants");
    private static final int SECONDS = 60;
    private static final String[][] SWAPS = {
        {" < ", " <= "}, {" <= ", " < "}, {" > ", " >= "}, {" >= ", " > "}, {" == ", " != "}, {" != ", " == "},
        {" && ", " || "}, {" || ", " && "}, {" + ", " - "}, {" - ", " + "}, {" * ", " / "}, {" / ", " * "},
        {"++;", "--;"}, {"--;", "++;"}, {" += ", " -= "}, {"true", "false"}, {"false", "true"}, {"(!", "("},
        {"timers", "rows"}, {"rows", "timers"}, {"NOWHERE", "0"},
        {"IllegalArgumentException(", "IllegalStateException("},
        {"IllegalStateException(", "IllegalArgumentException("},
        {"NoSuchElementException(", "IllegalArgumentException("},
    };
    private static final Pattern NUMBER = Pattern.compile("(?<![\\w.])(\\d+)(L?)\\b");
    private static final Pattern STATEMENT =
            Pattern.compile("(?m)^ {8,}(?!return|throw|int |long |boolean |final )[^/\\n]*;$");
    private static final Pattern NO_CODE = Pattern.compile("(?s)/\\*.*?\\*/|//[^\n]*|\"[^\"\n]*\"");

    private record Mutant(int at, String was, String becomes) {
    }

    private Mutants() {
    }

    public static void main(String[] args) throws Exception {
        String test = args.length > 0 ? args[0] : "EdgesTest";
        String text = Files.readString(SOURCE);
        // As long as the text, so that what is found in it stands in the text at the same place.
        String code = NO_CODE.matcher(text).replaceAll(found -> " ".repeat(found.group().length()));
        List<Mutant> all = mutantsOf(code);
        ExecutorService workers = Executors.newFixedThreadPool(Runtime.getRuntime().availableProcessors());
        List<Future<String>> ends = new ArrayList<>();
        for (int n = 0; n < all.size(); n++) {
            int number = n;
            ends.add(workers.submit(() -> endOf(number, all.get(number), text, test)));
        }
        int broken = 0;
        int unnoticed = 0;
        for (int n = 0; n < all.size(); n++) {
            String end = ends.get(n).get();
            broken += end.equals("does not compile") ? 0 : 1;
            if (end.equals("unnoticed")) {
                unnoticed++;
                System.out.println(told(text, all.get(n)));
            }
        }
        workers.shutdown();
        System.out.println(unnoticed + " of " + broken + " broken classes are not noticed by " + test);
    }

    private static List<Mutant> mutantsOf(String code) {
        List<Mutant> all = new ArrayList<>();
        int from = code.indexOf("public final class");
        for (String[] swap : SWAPS) {
            for (int at = code.indexOf(swap[0], from); at >= 0; at = code.indexOf(swap[0], at + 1)) {
                all.add(new Mutant(at, swap[0], swap[1]));
            }
        }
        Matcher number = NUMBER.matcher(code);
        while (number.find()) {
            long value = Long.parseLong(number.group(1));
            all.add(new Mutant(number.start(), number.group(), (value + 1) + number.group(2)));
            all.add(new Mutant(number.start(), number.group(), (value - 1) + number.group(2)));
        }
        Matcher statement = STATEMENT.matcher(code);
        while (statement.find()) {
            all.add(new Mutant(statement.start(), statement.group(), ""));
        }
        return all;
    }

    private static String endOf(int number, Mutant mutant, String text, String test)
            throws IOException, InterruptedException {
        Path folder = ROOM.resolve(String.valueOf(number));
        Files.createDirectories(folder);
        Path source = folder.resolve("TimerRows.java");
        Files.writeString(source, text.substring(0, mutant.at) + mutant.becomes
                + text.substring(mutant.at + mutant.was.length()));
        if (run("javac", "-d", folder.toString(), source.toString()) != 0) {
            return "does not compile";
        }
        String path = folder + System.getProperty("path.separator") + TESTS;
        return run("java", "-cp", path, test) == 0 ? "unnoticed" : "noticed";
    }

    private static int run(String... command) throws IOException, InterruptedException {
        Process process = new ProcessBuilder(command).redirectErrorStream(true)
                .redirectOutput(ProcessBuilder.Redirect.DISCARD).start();
        if (!process.waitFor(SECONDS, TimeUnit.SECONDS)) {
            process.destroyForcibly();
            return 1;
        }
        return process.exitValue();
    }

    private static String told(String text, Mutant mutant) {
        int line = (int) text.substring(0, mutant.at).chars().filter(c -> c == '\n').count() + 1;
        String whole = text.lines().skip(line - 1).findFirst().orElse("").strip();
        return "line " + line + ", '" + mutant.was.strip() + "' becomes '" + mutant.becomes.strip() + "': " + whole;
    }
}
