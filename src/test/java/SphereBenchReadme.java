import java.io.IOException;
import java.io.UncheckedIOException;
import java.nio.charset.StandardCharsets;
import java.nio.file.Files;
import java.nio.file.Path;
import java.util.ArrayList;
import java.util.Comparator;
import java.util.List;
import java.util.regex.Matcher;
import java.util.regex.Pattern;
import java.util.stream.Stream;

/** README.md followed word by word: its program is written down, its commands are run, and they print what it says. */
public final class SphereBenchReadme {
    private static final Pattern BLOCK = Pattern.compile("(?ms)^```(java|sh|text)\n(.*?)^```$");
    private static final Pattern PROGRAM = Pattern.compile("public final class (\\w+)");

    public static void main(String[] args) throws IOException {
        List<String[]> blocks = blocksOf(Files.readString(Path.of("README.md")));
        Path room = Files.createTempDirectory("readme");
        try {
            Files.createSymbolicLink(room.resolve("src"), Path.of("src").toAbsolutePath());
            Checks.test("README.md: Use and Tests", () -> follow(blocks, room));
            Checks.test("README.md: the tests that it names", SphereBenchReadme::dueTestsAreNamed);
        } finally {
            remove(room);
        }
        Checks.end();
    }

    private static List<String[]> blocksOf(String readme) {
        List<String[]> blocks = new ArrayList<>();
        Matcher m = BLOCK.matcher(readme);
        while (m.find()) {
            blocks.add(new String[] {m.group(1), m.group(2)});
        }
        return blocks;
    }

    /** In their order: a program is kept in a file, commands are run, a text is what the commands ahead print. */
    private static void follow(List<String[]> blocks, Path room) {
        String printed = "";
        int commands = 0;
        int texts = 0;
        for (String[] block : blocks) {
            if (block[0].equals("java")) {
                keepProgram(block[1], room);
            } else if (block[0].equals("sh")) {
                printed = run(block[1], room);
                commands++;
            } else {
                Checks.due("what is printed", printed, block[1]);
                texts++;
            }
        }
        Checks.due("whether README.md has commands for use and for tests", commands >= 2, true);
        Checks.due("whether README.md tells what its program prints", texts >= 1, true);
    }

    private static void keepProgram(String text, Path room) {
        Matcher m = PROGRAM.matcher(text);
        if (!m.find()) {
            Checks.fault("a program without a class:\n" + text);
            return;
        }
        try {
            Files.writeString(room.resolve(m.group(1) + ".java"), text);
        } catch (IOException e) {
            throw new UncheckedIOException(e);
        }
    }

    private static String run(String commands, Path room) {
        try {
            Process shell = new ProcessBuilder("sh", "-e", "-c", commands)
                .directory(room.toFile()).redirectError(ProcessBuilder.Redirect.INHERIT).start();
            shell.getOutputStream().close();
            String printed = new String(shell.getInputStream().readAllBytes(), StandardCharsets.UTF_8);
            int code = shell.waitFor();
            if (code != 0) {
                Checks.fault("these commands end with " + code + ":\n" + commands + printed);
            }
            return printed;
        } catch (IOException e) {
            throw new UncheckedIOException(e);
        } catch (InterruptedException e) {
            throw new IllegalStateException(e);
        }
    }

    private static void dueTestsAreNamed() {
        try (Stream<Path> tests = Files.list(Path.of("src/test/java"))) {
            String readme = Files.readString(Path.of("README.md"));
            tests.map(p -> p.getFileName().toString().replace(".java", ""))
                .forEach(name -> Checks.due("whether " + name + " is told", readme.contains("`" + name + "`"), true));
        } catch (IOException e) {
            throw new UncheckedIOException(e);
        }
    }

    private static void remove(Path room) throws IOException {
        try (Stream<Path> all = Files.walk(room)) {
            for (Path p : all.sorted(Comparator.reverseOrder()).toList()) {
                Files.delete(p);
            }
        }
    }
}
