import java.io.IOException;
import java.nio.file.Files;
import java.nio.file.Path;
import java.util.ArrayList;
import java.util.Comparator;
import java.util.List;
import java.util.regex.Matcher;
import java.util.regex.Pattern;
import java.util.stream.Stream;

/** README.md does what it says: its commands work as they stand, and its calls are those of the document. */
public final class ReadmeTest {
    private static final Path README = Path.of("README.md");
    private static final Path DOCUMENT = Path.of("../shared/DOC.md");
    /** What the commands need; the rest of the project is not theirs to look at. */
    private static final String[] NEEDED = {"src/main/java", "src/test/java"};
    /** The script that runs this test: were it run here, it would run this test again. */
    private static final String SCRIPT = ".ci/run";
    private static int wrong = 0;

    public static void main(String[] args) throws IOException, InterruptedException {
        String page = Files.readString(README);
        commands(page);
        calls(page);
        tests(page);
        System.out.println(wrong == 0 ? "README.md is as due" : wrong + " faults of README.md");
        if (wrong != 0) {
            System.exit(1);
        }
    }

    private static void hold(String what, boolean is) {
        if (!is) {
            wrong++;
            System.out.println(what);
        }
    }

    /** Each block of commands, in a copy of the project without what earlier runs have built. */
    private static void commands(String page) throws IOException, InterruptedException {
        Path copy = Files.createTempDirectory("readme");
        try {
            for (String directory : NEEDED) {
                copyFiles(Path.of(directory), copy.resolve(directory));
            }
            boolean isScriptNamed = false;
            int blocks = 0;
            Matcher block = Pattern.compile("```sh\n(.*?)```(?:\n\n[^\n]*\n\n```text\n(.*?)```)?", Pattern.DOTALL)
                    .matcher(page);
            while (block.find()) {
                boolean isScript = block.group(1).equals("bash " + SCRIPT + "\n");
                isScriptNamed = isScriptNamed || isScript;
                if (!isScript) {
                    blocks++;
                    runBlock(block.group(1), block.group(2), copy);
                }
            }
            hold("the page tells how all tests are run", isScriptNamed && Files.isExecutable(Path.of(SCRIPT)));
            hold("the page tells how the class is used and how one test is run", blocks >= 2);
        } finally {
            delete(copy);
        }
    }

    private static void runBlock(String commands, String due, Path directory)
            throws IOException, InterruptedException {
        Path printed = directory.resolve("printed");
        Path errors = directory.resolve("errors");
        // With -e, a command that fails ends the block. What a Java machine tells of itself goes to the errors.
        Process shell = new ProcessBuilder("bash", "-e", "-c", commands).directory(directory.toFile())
                .redirectOutput(printed.toFile()).redirectError(errors.toFile()).start();
        int code = shell.waitFor();
        String got = Files.readString(printed);
        hold("these commands end with " + code + ":\n" + commands + got + Files.readString(errors), code == 0);
        hold("these commands print\n" + got + "and the page says\n" + due, due == null || due.equals(got));
    }

    private static void copyFiles(Path from, Path to) throws IOException {
        Files.createDirectories(to);
        for (Path file : list(from)) {
            if (Files.isRegularFile(file)) {
                Files.copy(file, to.resolve(file.getFileName()));
            }
        }
    }

    private static List<Path> list(Path directory) throws IOException {
        try (Stream<Path> files = Files.list(directory)) {
            return files.sorted().toList();
        }
    }

    private static void delete(Path directory) throws IOException {
        List<Path> all;
        try (Stream<Path> files = Files.walk(directory)) {
            all = files.sorted(Comparator.reverseOrder()).toList();
        }
        for (Path file : all) {
            Files.delete(file);
        }
    }

    /** Each method of the document's face has one line of a table, with its parameters and its exceptions. */
    private static void calls(String page) throws IOException {
        Matcher signature = Pattern.compile("    public (?:\\w+) (\\w+)\\((.*?)\\)(?: throws (.*))?;")
                .matcher(Files.readString(DOCUMENT));
        int found = 0;
        while (signature.find()) {
            String call = signature.group(1) + "(" + signature.group(2).replaceAll("\\w+ (\\w+)", "$1") + ")";
            List<String> rows = page.lines().filter(line -> line.startsWith("| `" + call + "`")).toList();
            hold("one line for " + call + ": " + rows, rows.size() == 1);
            String thrown = rows.isEmpty() ? "" : String.join(", ", exceptions(rows.get(0)));
            String due = signature.group(3) == null ? "" : signature.group(3);
            hold(call + " throws " + thrown + ", due is " + due, thrown.equals(due));
            found++;
        }
        long rows = page.lines().filter(line -> line.matches("\\| `\\w+\\(.*")).count();
        hold(rows + " lines for calls, " + found + " are in the document", rows == found && found > 0);
    }

    private static List<String> exceptions(String row) {
        List<String> names = new ArrayList<>();
        Matcher name = Pattern.compile("`(\\w+Exception)`").matcher(row);
        while (name.find()) {
            names.add(name.group(1));
        }
        return names;
    }

    private static void tests(String page) throws IOException {
        for (Path file : list(Path.of("src/test/java"))) {
            String name = file.getFileName().toString().replace(".java", "");
            hold("the page does not tell of " + name, page.contains("\n- `" + name + "`: "));
        }
    }
}
