import java.io.File;
import java.io.IOException;
import java.nio.charset.StandardCharsets;
import java.nio.file.Files;
import java.nio.file.Path;
import java.util.ArrayList;
import java.util.List;

/** README.md tells the truth: each command that it names works, and the example prints what README.md says. */
public final class ReadmeTest {
    private static final String FENCE = "```";
    // It runs this test, too, and would have no end from here.
    private static final String ALL_TESTS = ".ci/run";
    private static int wrong = 0;
    private static String out = "";

    private ReadmeTest() {
    }

    public static void main(String[] args) throws IOException, InterruptedException {
        List<String> lines = Files.readAllLines(Path.of("README.md"), StandardCharsets.UTF_8);
        Path directory = Files.createTempDirectory("readme");
        out = directory.toString();
        int commands = 0;
        String lastPrinted = "";
        for (int at = 0; at < lines.size(); at++) {
            String opened = lines.get(at);
            if (!opened.startsWith(FENCE)) continue;
            List<String> block = blockBehind(lines, at);
            at += block.size() + 1;
            if (opened.equals(FENCE + "text")) expect("the example", lastPrinted, String.join("\n", block) + "\n");
            if (!opened.equals(FENCE + "sh")) continue;
            for (String command : block) {
                lastPrinted = printedBy(command);
                commands++;
            }
        }
        expect("the number of commands", String.valueOf(commands), "7");
        eachTestIsNamed(lines);
        remove(directory);
        System.out.println(commands + " commands of README.md tried, " + wrong + " wrong");
        if (wrong != 0) System.exit(1);
    }

    private static List<String> blockBehind(List<String> lines, int fence) {
        List<String> block = new ArrayList<>();
        for (int at = fence + 1; at < lines.size() && !lines.get(at).equals(FENCE); at++) block.add(lines.get(at));
        return block;
    }

    private static String printedBy(String command) throws IOException, InterruptedException {
        if (command.equals(ALL_TESTS)) {
            expect(ALL_TESTS + " can be run", String.valueOf(new File(ALL_TESTS).canExecute()), "true");
            return "";
        }
        // The checkout stays as it was: a directory of the test's own instead of the one that README.md names.
        String aside = command.replace(" out ", " " + out + " ");
        Process process = new ProcessBuilder("bash", "-c", aside)
            .redirectError(ProcessBuilder.Redirect.INHERIT).start();
        String printed = new String(process.getInputStream().readAllBytes(), StandardCharsets.UTF_8);
        int code = process.waitFor();
        expect("the exit code of " + command, String.valueOf(code), "0");
        if (code != 0) System.out.println(printed);
        return printed;
    }

    private static void remove(Path directory) throws IOException {
        for (File file : directory.toFile().listFiles()) file.delete();
        Files.delete(directory);
    }

    private static void eachTestIsNamed(List<String> lines) {
        String all = String.join("\n", lines);
        for (String name : new File("src/test/java").list()) {
            String plain = name.replace(".java", "");
            if (!all.contains("`" + plain + "`")) expect("README.md on " + plain, "nothing", "what it is for");
        }
    }

    private static void expect(String what, String is, String due) {
        if (is.equals(due)) return;
        wrong++;
        System.out.println(what + " is " + is + ", due is " + due);
    }
}
