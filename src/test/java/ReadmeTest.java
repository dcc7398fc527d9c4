import java.io.IOException;
import java.nio.charset.StandardCharsets;
import java.nio.file.Files;
import java.nio.file.Path;
import java.util.ArrayList;
import java.util.List;
import java.util.regex.Matcher;
import java.util.regex.Pattern;

/** Compiles the program that README.md shows, runs it, and compares what it prints with what its comments tell. */
public final class ReadmeTest {
    private static final Pattern PROGRAM = Pattern.compile("<<'END'\n(.*?)\nEND\n", Pattern.DOTALL);
    private static final Pattern ANSWER = Pattern.compile("println\\(x\\.(\\w+)\\(.*// (-?\\d+)");

    public static void main(String[] args) throws Exception {
        String readme = Files.readString(Path.of("README.md"));
        Matcher program = PROGRAM.matcher(readme);
        Bench.is("a program in README.md", program.find(), true);
        compare(program.group(1), linesOf(program.group(1)));
        Bench.end("ReadmeTest");
    }

    private static void compare(String program, List<String> printed) {
        Matcher answer = ANSWER.matcher(program);
        int line = 0;
        for (; answer.find(); line++) {
            long got = line < printed.size() ? Long.parseLong(printed.get(line)) : Long.MIN_VALUE;
            Bench.is(answer.group(1) + " in line " + line + " of README.md's program", got, Long.parseLong(answer.group(2)));
        }
        Bench.is("lines that README.md's program prints", printed.size(), line);
    }

    /** What a program prints, line by line. */
    private static List<String> linesOf(String program) throws Exception {
        Path folder = Files.createTempDirectory("readme");
        Path file = folder.resolve("Try.java");
        Files.writeString(file, program + "\n");
        run("javac", "-d", folder.toString(), "src/main/java/EmberScript.java", file.toString());
        List<String> lines = run("java", "-cp", folder.toString(), "Try");
        remove(folder);
        return lines;
    }

    /** Runs a command, and tells the lines that it prints. */
    private static List<String> run(String... command) throws IOException, InterruptedException {
        Process process = new ProcessBuilder(command).redirectErrorStream(true).start();
        String all = new String(process.getInputStream().readAllBytes(), StandardCharsets.UTF_8);
        Bench.is("exit code of " + command[0] + " for README.md's program", process.waitFor(), 0);
        return all.lines().toList();
    }

    private static void remove(Path folder) throws IOException {
        List<Path> files = new ArrayList<>();
        try (var found = Files.list(folder)) {
            found.forEach(files::add);
        }
        for (Path file : files) {
            Files.delete(file);
        }
        Files.delete(folder);
    }
}
