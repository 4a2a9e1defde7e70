import java.io.IOException;
import java.nio.charset.StandardCharsets;
import java.nio.file.Files;
import java.nio.file.Path;
import java.util.ArrayList;
import java.util.HashSet;
import java.util.List;
import java.util.Map;
import java.util.Set;
import java.util.regex.Matcher;
import java.util.regex.Pattern;
import java.util.stream.Collectors;
import java.util.stream.Stream;

/** What README.md shows: its calls and answers, the error codes, the number of calls, and the tests that it names. */
public final class ReadmeTest {
    private static final Pattern BLOCK = Pattern.compile("(?s)```(\\w+)\n(.*?)```");
    private static final Pattern ROW = Pattern.compile("bench\\.(\\w+\\(.*\\)); +// -> (\\w+|-\\d+)(, .*)?");
    private static final Pattern CODE = Pattern.compile("(?m)^\\| `([A-Z_]+)` \\| (-\\d+) \\| (.*) \\|$");
    private static final Pattern PATH = Pattern.compile("`((?:\\.\\./|src/|\\.ci/)[\\w./-]+)`");
    private static final String NEW = "DeBruijnWorkbench bench = new DeBruijnWorkbench();";
    private static final int LEAST_ROWS = 50;

    private final Due due = new Due();
    private final Doc doc = new Doc();
    private final String text = Files.readString(Path.of("README.md"), StandardCharsets.UTF_8);

    private ReadmeTest() throws IOException {
    }

    public static void main(String[] args) throws Exception {
        new ReadmeTest().run();
    }

    private void run() throws Exception {
        calls();
        names();
        errorCodes();
        due.that(Doc.plain(text).contains("An object is used for at most 512 calls after it has been made"), "README.md does not say for how many calls");
        due.that(doc.section("What it is").contains("An object is used for at most 512 calls after it has been made"), "the document has another number");
        paths();
        tests();
        commands();
        due.end();
    }

    private void calls() {
        int rows = 0;
        Matcher block = BLOCK.matcher(text);
        while (block.find()) {
            if (block.group(1).equals("java")) {
                rows += runBlock(block.group(2).split("\n"));
            }
        }
        due.that(rows >= LEAST_ROWS, "README.md shows only " + rows + " calls");
    }

    private int runBlock(String[] lines) {
        due.that(lines[0].equals(NEW), "a block begins with " + lines[0]);
        DeBruijnWorkbench bench = new DeBruijnWorkbench();
        for (int i = 1; i < lines.length; i++) {
            Matcher row = ROW.matcher(lines[i]);
            boolean matches = row.matches();
            due.that(matches, "this is no call with its answer: " + lines[i]);
            if (matches) {
                String got = Calls.answer(bench, row.group(1));
                due.that(got.equals(Ask.number(row.group(2))), lines[i] + ", but answered " + got);
                checkLetters(bench, lines[i], row.group(3));
            }
        }
        return lines.length - 1;
    }

    /** A note that tells the sequence ends with its letters, behind a colon, "now" or "is", or begins with them before "again". */
    private void checkLetters(DeBruijnWorkbench bench, String line, String note) {
        Matcher told = Pattern.compile("(?:: |now |sequence is )([0-3]+)$|, ([0-3]+) again").matcher(note == null ? "" : note);
        if (told.find()) {
            String letters = told.group(1) == null ? told.group(2) : told.group(1);
            due.that(Due.letters(bench).equals(letters), line + ", but the sequence is " + Due.letters(bench));
        }
    }

    private void names() {
        for (int promise = 2; promise <= Due.PROMISES; promise++) {
            due.that(text.contains("`" + doc.name(promise) + "`"), "README.md does not name " + doc.name(promise));
        }
    }

    private void errorCodes() {
        List<String> told = new ArrayList<>();
        Matcher code = CODE.matcher(text);
        while (code.find()) {
            told.add(code.group(1) + " " + code.group(2) + " " + code.group(3));
        }
        List<String> asked = new ArrayList<>();
        for (Map.Entry<String, String[]> entry : doc.constants().entrySet()) {
            asked.add(entry.getKey() + " " + entry.getValue()[0] + " " + entry.getValue()[1]);
        }
        due.that(!asked.isEmpty() && told.equals(asked), "README.md tells the error codes " + told);
    }

    private void paths() {
        Set<String> named = new HashSet<>();
        Matcher path = PATH.matcher(text);
        while (path.find()) {
            named.add(path.group(1));
            due.that(Files.exists(Path.of(path.group(1))), "there is no " + path.group(1));
        }
        due.that(named.size() >= 5, "README.md names only " + named);
        due.that(text.contains("\n.ci/run\n") && Files.isExecutable(Path.of(".ci/run")), ".ci/run can't be run as README.md says");
    }

    private void tests() throws IOException {
        try (Stream<Path> files = Files.list(Path.of("src/test/java"))) {
            for (String name : files.map(f -> f.getFileName().toString().replace(".java", "")).collect(Collectors.toList())) {
                due.that(text.contains("`" + name + "`"), "README.md does not name the test " + name);
            }
        }
        Matcher named = Pattern.compile("`(\\w+Test)`").matcher(text);
        while (named.find()) {
            due.that(Files.exists(Path.of("src/test/java/" + named.group(1) + ".java")), "there is no test " + named.group(1));
        }
    }

    /** The commands for one test alone, with a folder of their own; .ci/run is what runs this test. */
    private void commands() throws IOException, InterruptedException {
        int run = 0;
        Matcher block = BLOCK.matcher(text);
        while (block.find()) {
            if (block.group(1).equals("sh") && !block.group(2).equals(".ci/run\n")) {
                Path out = Files.createTempDirectory("readme");
                Process process = new ProcessBuilder("sh", "-e", "-c", block.group(2).replace("/tmp/out", out.toString())).redirectErrorStream(true).start();
                String printed = new String(process.getInputStream().readAllBytes(), StandardCharsets.UTF_8);
                due.that(process.waitFor() == 0, "these commands fail:\n" + block.group(2) + printed);
                remove(out);
                run++;
            }
        }
        due.that(run == 1, run + " blocks of commands were run");
    }

    private static void remove(Path folder) throws IOException {
        try (Stream<Path> files = Files.list(folder)) {
            for (Path file : files.collect(Collectors.toList())) {
                Files.delete(file);
            }
        }
        Files.delete(folder);
    }
}
