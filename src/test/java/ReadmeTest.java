import java.io.File;
import java.io.IOException;
import java.nio.charset.StandardCharsets;
import java.nio.file.DirectoryStream;
import java.nio.file.Files;
import java.nio.file.Path;
import java.util.ArrayList;
import java.util.List;
import java.util.regex.Matcher;
import java.util.regex.Pattern;

/** README.md tells the class as it is: its program, its table of calls against the document's promises, its refusals. */
public final class ReadmeTest {
    private static final Pattern PROMISE = Pattern.compile("(?m)^`int (\\w+)\\(([^)]*)\\)`: (.*)$");
    private static final Pattern REFUSAL = Pattern.compile("\\b(NONE|BAD|STATE|FULL|NO)\\b");
    private static final int CALLS = 34;
    private static int wrong = 0;

    public static void main(String[] args) throws IOException, InterruptedException, ReflectiveOperationException {
        Path root = args.length > 0 ? Path.of(args[0]).resolve("../../../..").normalize() : Path.of("");
        String readme = Files.readString(root.resolve("README.md"));
        String document = Files.readString(root.resolve("../shared/DOC.md"));
        checkProgram(block(readme, "java"), block(readme, "text"));
        checkCalls(readme, document);
        checkRefusals(readme);
        checkObjects(readme);
        checkTests(readme, root.resolve("src/test/java"));
        System.out.println(wrong == 0 ? "the page tells the class as it is" : wrong + " things are told wrongly");
        if (wrong != 0) {
            System.exit(1);
        }
    }

    private static void check(boolean right, String what) {
        if (!right) {
            wrong++;
            System.out.println(what);
        }
    }

    /** The first block of a kind, between its fences. */
    private static String block(String page, String kind) {
        Matcher found = Pattern.compile("(?s)```" + kind + "\n(.*?)```").matcher(page);
        boolean there = found.find();
        check(there, "the page has no block of " + kind);
        return there ? found.group(1) : "";
    }

    /** By the commands that the page tells, which .ci/run needs, too. */
    private static void checkProgram(String program, String due) throws IOException, InterruptedException {
        Path room = Files.createTempDirectory("readme");
        Path source = room.resolve("Example.java");
        Files.writeString(source, program);
        String path = System.getProperty("java.class.path");
        printedBy("javac", "-cp", path, "-d", room.toString(), source.toString());
        String printed = printedBy("java", "-cp", path + File.pathSeparator + room, "Example");
        check(printed.equals(due), "the page's program prints\n" + printed);
        try (DirectoryStream<Path> made = Files.newDirectoryStream(room)) {
            for (Path one : made) {
                Files.delete(one);
            }
        }
        Files.delete(room);
    }

    private static String printedBy(String... command) throws IOException, InterruptedException {
        Process process = new ProcessBuilder(command).redirectError(ProcessBuilder.Redirect.INHERIT).start();
        String printed = new String(process.getInputStream().readAllBytes(), StandardCharsets.UTF_8);
        check(process.waitFor() == 0, command[0] + " of the page's program failed");
        return printed.replace(System.lineSeparator(), "\n");
    }

    /** Each promise has its row, with the parameters and, in their order, the refusals that the document names. */
    private static void checkCalls(String readme, String document) {
        int calls = 0;
        Matcher promise = PROMISE.matcher(document);
        while (promise.find()) {
            calls++;
            String call = promise.group(1) + "(" + promise.group(2).replaceAll("\\b(int|long) ", "") + ")";
            String[] cells = row(readme, "`" + call + "`");
            check(cells.length == 3, call + " has no row");
            if (cells.length == 3) {
                List<String> told = refusals(cells[2]);
                List<String> due = refusals(promise.group(3));
                check(told.equals(due), call + " is told to refuse with " + told + ", the document says " + due);
                check(!cells[1].isBlank(), call + " is not told");
            }
        }
        check(calls == CALLS, "the document has " + calls + " calls");
    }

    private static List<String> refusals(String words) {
        List<String> found = new ArrayList<>();
        Matcher refusal = REFUSAL.matcher(words);
        while (refusal.find()) {
            if (!found.contains(refusal.group())) {
                found.add(refusal.group());
            }
        }
        return found;
    }

    private static void checkRefusals(String readme) throws ReflectiveOperationException {
        for (String name : List.of("NONE", "BAD", "STATE", "FULL", "NO")) {
            String[] cells = row(readme, "`BracketLetters." + name + "`");
            String value = String.valueOf(BracketLetters.class.getField(name).getInt(null));
            check(cells.length == 3 && cells[1].equals(value), name + " is not told as " + value);
        }
    }

    /** The rows that tell how many letters and degrees an object has, against objects. */
    private static void checkObjects(String readme) {
        for (int letters = 0; letters < 3; letters++) {
            String[] cells = row(readme, String.valueOf(letters));
            check(cells.length == 4, "objects of " + letters + " are not told");
            if (cells.length == 4) {
                int kinds = Integer.parseInt(cells[2]);
                int many = new BracketLetters(letters, 0).count(0);
                int least = new BracketLetters(letters, 0).count(1);
                int most = new BracketLetters(letters, kinds - 1).count(1);
                check(cells[1].startsWith(many + ": "), "letters " + letters + " are told as " + cells[1]);
                check(cells[1].split(",").length == many, "letters " + letters + " are told as " + cells[1]);
                check(cells[3].equals(least + " .. " + most), "degrees of " + letters + " are told as " + cells[3]);
                check(new BracketLetters(letters, kinds).count(1) == least, "degrees of " + letters + " go on");
            }
        }
    }

    private static void checkTests(String readme, Path tests) throws IOException {
        try (DirectoryStream<Path> all = Files.newDirectoryStream(tests, "*Test.java")) {
            for (Path one : all) {
                String name = one.getFileName().toString().replace(".java", "");
                check(readme.contains("`" + name + "`"), name + " is not told");
            }
        }
    }

    /** The cells of the row of a table that begins with one; none if there is no such row. */
    private static String[] row(String readme, String first) {
        for (String line : readme.split("\n")) {
            if (line.startsWith("| " + first + " |")) {
                String[] cells = line.substring(1, line.lastIndexOf('|')).split("\\|", -1);
                for (int i = 0; i < cells.length; i++) {
                    cells[i] = cells[i].trim();
                }
                return cells;
            }
        }
        return new String[0];
    }
}
