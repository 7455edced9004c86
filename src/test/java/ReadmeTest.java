import java.io.IOException;
import java.nio.file.Files;
import java.nio.file.Path;
import java.util.ArrayList;
import java.util.Comparator;
import java.util.List;
import java.util.regex.Matcher;
import java.util.regex.Pattern;
import java.util.stream.Stream;

/** What README.md says holds: its commands compile and run its example, which prints what stands behind its calls. */
public final class ReadmeTest {
    private static final Due DUE = new Due("ReadmeTest");
    private static final Path ROOT = Path.of(System.getProperty("root"));
    private static final String PROGRAM = "src/main/java/MinorTables.java";

    public static void main(String[] args) throws Exception {
        String readme = Files.readString(ROOT.resolve("README.md"));
        exampleAnswersSo(readme);
        testsAreThoseNamed(readme);
        DUE.holds("the tests' command is told", blocks(readme, "sh").contains(".ci/run\n"));
        DUE.holds("the tests' command can be run", Files.isExecutable(ROOT.resolve(".ci/run")));
        DUE.end();
    }

    private static List<String> blocks(String readme, String language) {
        return all("```" + language + "\n(.*?)```", readme);
    }

    private static List<String> all(String pattern, String text) {
        List<String> found = new ArrayList<>();
        Matcher m = Pattern.compile(pattern, Pattern.DOTALL).matcher(text);
        while (m.find()) {
            found.add(m.group(1));
        }
        return found;
    }

    private static void exampleAnswersSo(String readme) throws Exception {
        List<String> examples = blocks(readme, "java");
        List<String> commands = blocks(readme, "sh");
        DUE.is("one example", examples.size(), 1);
        DUE.is("commands for it and for the tests", commands.size(), 2);
        if (examples.size() != 1 || commands.size() != 2) {
            return;
        }
        List<String> due = all("println\\([^\n]*// ([^:\n]+):", examples.get(0));
        DUE.holds("the example prints", due.size() > 0);
        DUE.is("each line printed has its answer behind it", all("(println)", examples.get(0)).size(), due.size());
        DUE.alike("the example", run(commands.get(0), examples.get(0)), String.join("\n", due));
    }

    /** What the commands print, in a folder that holds the program and the example alone. */
    private static String run(String commands, String example) throws Exception {
        Path folder = Files.createTempDirectory("readme");
        try {
            Files.createDirectories(folder.resolve(PROGRAM).getParent());
            Files.copy(ROOT.resolve(PROGRAM), folder.resolve(PROGRAM));
            Files.writeString(folder.resolve("Example.java"), example);
            Process shell = new ProcessBuilder("bash", "-e", "-c", commands).directory(folder.toFile())
                .redirectErrorStream(true).start();
            String printed = new String(shell.getInputStream().readAllBytes()).strip();
            DUE.is("the commands end", shell.waitFor(), 0);
            return printed;
        } finally {
            remove(folder);
        }
    }

    private static void remove(Path folder) throws IOException {
        try (Stream<Path> within = Files.walk(folder)) {
            for (Path p : within.sorted(Comparator.reverseOrder()).toList()) {
                Files.delete(p);
            }
        }
    }

    private static void testsAreThoseNamed(String readme) throws IOException {
        List<String> named = all("`([A-Za-z]+Test)`", readme).stream().sorted().distinct().toList();
        try (Stream<Path> files = Files.list(ROOT.resolve("src/test/java"))) {
            List<String> there = files.map(f -> f.getFileName().toString()).filter(f -> f.endsWith("Test.java"))
                .map(f -> f.substring(0, f.length() - ".java".length())).sorted().toList();
            DUE.alike("the tests named", named + "", there + "");
        }
    }
}
