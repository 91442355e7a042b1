import java.io.IOException;
import java.nio.file.Files;
import java.nio.file.Path;
import java.util.ArrayList;
import java.util.Comparator;
import java.util.HashMap;
import java.util.List;
import java.util.Map;
import java.util.regex.Matcher;
import java.util.regex.Pattern;
import java.util.stream.Stream;

/** What README.md shows does what it says: the answer behind each call, and the commands, which are done in a copy. */
public final class ReadmeTest {
    private static final String README = "README.md";
    private static final String FENCE = "```";
    private static final String MAKING = "QuorumBakery x = new QuorumBakery();";
    private static final Pattern CALL =
            Pattern.compile("(?:int (\\w+) = )?x\\.(\\w+\\([^()]*\\)); *// (throws \\w+|-?\\w+)(?:: .+)?");

    private static int wrong = 0;

    public static void main(String[] args) throws IOException, InterruptedException {
        List<String> lines = Files.readAllLines(Path.of(README));
        List<List<String>> programs = blocks(lines, "java");
        List<List<String>> commands = blocks(lines, "sh");
        if (programs.isEmpty() || commands.isEmpty() || !programs.get(0).get(0).equals(MAKING)) {
            fail(README, "has no example that begins with " + MAKING + ", or no commands");
        } else {
            int calls = compareAnswers(programs);
            runCommands(programs.get(0), commands);
            System.out.println(calls + " calls and " + commands.size() + " commands of " + README + ": "
                    + (wrong == 0 ? "all do what it says" : wrong + " do not do what it says"));
        }
        if (wrong != 0) {
            System.exit(1);
        }
    }

    private static void fail(String what, String how) {
        wrong++;
        System.out.println(what + ": " + how);
    }

    /** The lines between each fence of this language and the next fence; blocks without a line are left out. */
    private static List<List<String>> blocks(List<String> lines, String language) {
        List<List<String>> found = new ArrayList<>();
        List<String> block = null;
        for (String line : lines) {
            if (line.startsWith(FENCE)) {
                if (block != null && !block.isEmpty()) {
                    found.add(block);
                }
                block = block == null && line.equals(FENCE + language) ? new ArrayList<>() : null;
            } else if (block != null) {
                block.add(line);
            }
        }
        return found;
    }

    /** All programs go on with one object, and with the model, as a reader takes them; returns how many calls they show. */
    private static int compareAnswers(List<List<String>> programs) {
        QuorumBakery x = new QuorumBakery();
        Model model = new Model();
        Map<String, String> numbers = new HashMap<>();
        int calls = 0;
        for (List<String> program : programs) {
            for (String line : program) {
                Matcher matcher = CALL.matcher(line);
                if (matcher.matches()) {
                    String call = withNumbers(matcher.group(2), numbers);
                    String want = matcher.group(3).replace("throws ", "throws.");
                    compare(line, Calls.answer(x, call), want);
                    compare(line + " (of the model)", Calls.answer(model, call), want);
                    if (matcher.group(1) != null) {
                        numbers.put(matcher.group(1), want);
                    }
                    calls++;
                } else if (!line.equals(MAKING)) {
                    fail(line, "is no call with its answer");
                }
            }
        }
        return calls;
    }

    private static void compare(String what, String got, String want) {
        if (!got.equals(want)) {
            fail(what, "answered " + got);
        }
    }

    private static String withNumbers(String call, Map<String, String> numbers) {
        String text = call;
        for (Map.Entry<String, String> number : numbers.entrySet()) {
            text = text.replaceAll("\\b" + number.getKey() + "\\b", number.getValue());
        }
        return text;
    }

    private static void runCommands(List<String> program, List<List<String>> commands) throws IOException, InterruptedException {
        Path copy = Files.createTempDirectory("readme");
        try {
            // A link is enough of a copy: the commands only read src, and write beside it.
            Files.createSymbolicLink(copy.resolve("src"), Path.of("src").toAbsolutePath());
            Files.writeString(copy.resolve("Mine.java"), "public class Mine {\n    public static void main(String[] args) {\n        "
                    + String.join("\n        ", program) + "\n    }\n}\n");
            for (List<String> command : commands) {
                runCommand(copy, String.join("\n", command));
            }
        } finally {
            delete(copy);
        }
    }

    private static void runCommand(Path directory, String command) throws IOException, InterruptedException {
        Process process = new ProcessBuilder("sh", "-e", "-c", command).directory(directory.toFile()).redirectErrorStream(true).start();
        process.getOutputStream().close();
        String output = new String(process.getInputStream().readAllBytes());
        int code = process.waitFor();
        if (code != 0) {
            fail(command, "ended with " + code + "\n" + output);
        }
    }

    private static void delete(Path directory) throws IOException {
        try (Stream<Path> paths = Files.walk(directory)) {
            for (Path path : paths.sorted(Comparator.reverseOrder()).toList()) {
                Files.delete(path);
            }
        }
    }
}
