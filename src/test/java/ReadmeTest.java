import java.io.IOException;
import java.nio.charset.StandardCharsets;
import java.nio.file.Files;
import java.nio.file.Path;
import java.util.Comparator;
import java.util.List;
import java.util.regex.Matcher;
import java.util.regex.Pattern;
import java.util.stream.Collectors;
import java.util.stream.Stream;

/** README.md: its example is compiled and run, and its way to run the tests is there. Run from the project's root. */
public final class ReadmeTest {
    public static void main(String[] args) throws Exception {
        String page = Files.readString(Path.of("README.md"));
        example(block(page, "java"), block(page, "text"));
        Path script = Path.of(block(page, "sh").trim());
        Due.due("the way to run the tests: " + script, Files.isExecutable(script), true);
        everyTestIsNamed(page);
        Due.finish();
    }

    private static String block(String page, String kind) {
        Matcher found = Pattern.compile("(?s)```" + kind + "\n(.*?)```").matcher(page);
        boolean there = found.find();
        Due.due("a block of " + kind, there, true);
        String text = there ? found.group(1) : "";
        Due.due("one block of " + kind + " alone", there && found.find(), false);
        return text;
    }

    private static void example(String program, String printed) throws Exception {
        Path dir = Files.createTempDirectory("readme");
        try {
            String source = Files.writeString(dir.resolve("Example.java"), program).toString();
            run("javac", "-Xlint:all", "-Werror", "-d", dir.toString(), "src/main/java/StormOffice.java", source);
            same(run("java", "-cp", dir.toString(), "Example").lines().toList(), printed.lines().toList());
        } finally {
            remove(dir);
        }
    }

    /** What a command prints, which ends with code 0. */
    private static String run(String... command) throws Exception {
        Process process = new ProcessBuilder(command).redirectError(ProcessBuilder.Redirect.INHERIT).start();
        String printed = new String(process.getInputStream().readAllBytes(), StandardCharsets.UTF_8);
        Due.due(command[0] + " ends with 0", process.waitFor(), 0);
        return printed;
    }

    private static void same(List<String> got, List<String> want) {
        Due.due("lines that are printed", got.size(), want.size());
        for (int i = 0; i < Math.min(got.size(), want.size()); i++) {
            Due.due("printed is '" + got.get(i) + "', told '" + want.get(i) + "'", got.get(i).equals(want.get(i)), true);
        }
    }

    private static void everyTestIsNamed(String page) throws IOException {
        String[][] rows = {{"LandTest", "PostsTest"}, {"LandEdgesTest", "PostsEdgesTest"}};
        for (String[] row : rows) Due.due("the row " + row[0], page.contains("`" + row[0] + "` .. `" + row[1] + "`"), true);
        String inRows = "(Land|Heart|Paths|Rules|Asks|Warnings|Truth|Posts)(Edges)?Test";
        for (String name : names()) Due.due(name, name.matches(inRows) || page.contains("`" + name + "`"), true);
    }

    private static List<String> names() throws IOException {
        try (Stream<Path> files = Files.list(Path.of("src/test/java"))) {
            return files.map(f -> f.getFileName().toString()).filter(f -> f.endsWith("Test.java"))
                    .map(f -> f.substring(0, f.length() - 5)).sorted().collect(Collectors.toList());
        }
    }

    private static void remove(Path dir) throws IOException {
        try (Stream<Path> files = Files.walk(dir)) {
            for (Path file : files.sorted(Comparator.reverseOrder()).collect(Collectors.toList())) Files.delete(file);
        }
    }
}
