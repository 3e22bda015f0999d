import java.io.IOException;
import java.net.URL;
import java.net.URLClassLoader;
import java.nio.file.Files;
import java.nio.file.Path;
import java.util.ArrayList;
import java.util.List;
import java.util.Set;
import java.util.TreeSet;
import java.util.regex.Matcher;
import java.util.regex.Pattern;
import java.util.stream.Stream;
import javax.tools.ToolProvider;

/** That the run of calls in README.md compiles, answers as it says there, and shows every group of calls. */
public final class ReadmeTest {
    private static final Pattern BLOCK = Pattern.compile("(?s)```java\n(.*?)```");
    private static final Pattern CALL = Pattern.compile("(?m)^(x\\.(\\w+)\\(.*\\)); +// (-?\\d+|[A-Z]+)(:.*)?$");
    private static final Pattern FACE = Pattern.compile("Ahead of the calls (.*?) the interface says: ---- (.*?)\\.");

    public static void main(String[] args) throws Exception {
        String readme = Files.readString(Path.of("README.md"));
        Matcher block = BLOCK.matcher(readme);
        Check.holds("README.md has a run of calls", block.find());
        String run = block.group(1);
        everyCallHasItsAnswer(run);
        everyGroupIsShown(run);
        goThrough(run);
        everyTestIsTold(readme);
        Check.end("ReadmeTest");
    }

    private static void everyCallHasItsAnswer(String run) {
        long calls = run.lines().filter(line -> line.startsWith("x.")).count();
        Check.due("calls with an answer", CALL.matcher(run).results().count(), calls);
        Check.holds("there are such calls", calls > 0);
    }

    private static void everyGroupIsShown(String run) throws IOException {
        Set<String> shown = new TreeSet<>();
        CALL.matcher(run).results().forEach(call -> shown.add(call.group(2)));
        Matcher group = FACE.matcher(Files.readString(Path.of("../shared/DOC.md")));
        int groups = 0;
        while (group.find()) {
            groups++;
            boolean isShown = Stream.of(group.group(1).replace("`", "").split(", ")).anyMatch(shown::contains);
            Check.holds("README.md shows a call of: " + group.group(2), isShown);
        }
        Check.due("groups of the face", groups, 6);
    }

    /** The run is compiled as it stands, but that each answer is put down. */
    private static void goThrough(String run) throws Exception {
        String asked = CALL.matcher(run).replaceAll("answers.add((long) $1);");
        Path folder = Files.createTempDirectory(Path.of("build"), "readme");
        Path source = folder.resolve("ReadmeRun.java");
        Files.writeString(source, "public class ReadmeRun {\n    public static void run(java.util.List<Long> answers) {\n"
                + asked + "    }\n}\n");
        int ended = ToolProvider.getSystemJavaCompiler().run(null, null, null, "--release", "17",
                "-cp", System.getProperty("java.class.path"), "-d", folder.toString(), source.toString());
        Check.due("the run compiles", ended, 0);
        if (ended == 0) {
            List<Long> answers = new ArrayList<>();
            try (URLClassLoader loader = new URLClassLoader(new URL[] {folder.toUri().toURL()})) {
                loader.loadClass("ReadmeRun").getMethod("run", List.class).invoke(null, answers);
            }
            holdAgainst(run, answers);
        }
    }

    private static void holdAgainst(String run, List<Long> answers) {
        Matcher call = CALL.matcher(run);
        for (long answer : answers) {
            Check.holds("a call for each answer", call.find());
            Check.due("README.md: " + call.group(1), answer, number(call.group(3)));
        }
        Check.holds("an answer for each call", !call.find());
    }

    private static int number(String answer) {
        return switch (answer) {
            case "UNKNOWN" -> NameHall.UNKNOWN;
            case "OUTSIDE" -> NameHall.OUTSIDE;
            case "STATE" -> NameHall.STATE;
            case "FULL" -> NameHall.FULL;
            case "NONE" -> NameHall.NONE;
            default -> Integer.parseInt(answer);
        };
    }

    private static void everyTestIsTold(String readme) throws IOException {
        try (Stream<Path> files = Files.list(Path.of("src/test/java"))) {
            for (Path file : files.sorted().toList()) {
                String name = file.getFileName().toString().replace(".java", "");
                Check.holds("README.md tells of " + name, !name.endsWith("Test") || readme.contains("`" + name + "`"));
            }
        }
    }
}
