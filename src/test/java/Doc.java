import java.io.IOException;
import java.io.UncheckedIOException;
import java.nio.file.Files;
import java.nio.file.Path;
import java.util.ArrayList;
import java.util.List;
import java.util.Set;
import java.util.TreeSet;
import java.util.regex.Matcher;
import java.util.regex.Pattern;

/**
 * A part of ../shared/DOC.md that is told sentence by sentence, in the document's own words and order: where a
 * sentence is passed over, or is not the document's, the test fails.
 */
final class Doc {
    private static final Path FILE = Path.of("../shared/DOC.md");
    private static final Set<String> TOLD = new TreeSet<>();

    private final String name;
    private final String text;
    private int at;

    private Doc(String partName, String partText) {
        name = partName;
        text = partText.replaceAll("\\s+", " ").trim();
    }

    /** What stands ahead of '==== 1.' is part 0; the last part ends where the promises begin. */
    static Doc part(int number) {
        return new Doc("Part " + number, parts()[number]);
    }

    static Doc promise(int number) {
        Matcher found = Pattern.compile("## Promise " + number + ": [^\n]*\n+`[^`]*`: ([^#]*)").matcher(whole());
        Due.due("Promise " + number + " is in the document", found.find(), true);
        return new Doc("Promise " + number, found.group(1));
    }

    static Doc notPromised() {
        return new Doc("Not promised", whole().split("## Not promised\n")[1]);
    }

    /** The lines of the public face, without the class's own line and its end. */
    static List<String> face() {
        List<String> lines = new ArrayList<>();
        String block = whole().split("```java\n")[1].split("```")[0];
        for (String line : block.split("\n")) if (line.startsWith("    ")) lines.add(line.trim());
        return lines;
    }

    /** The signatures that stand at the head of the promises, in their order. */
    static List<String> signatures() {
        List<String> all = new ArrayList<>();
        Matcher found = Pattern.compile("## Promise \\d+: [^\n]*\n+`([^`]*)`: ").matcher(whole());
        while (found.find()) all.add(found.group(1));
        return all;
    }

    /** What follows tests these words, which are the document's next ones. */
    void says(String words) {
        while (at < text.length() && text.charAt(at) == ' ') at++;
        boolean next = text.startsWith(words, at);
        Due.due(name + " does not go on with '" + words + "' but with '" + text.substring(at) + "'", next, true);
        if (next) at += words.length();
        Edges.heading(name + " '" + words + "': ");
    }

    /** No word of it is left without a test. */
    void end() {
        String left = text.substring(at).trim();
        Due.due(name + " has words without a test: '" + left + "'", left.isEmpty(), true);
        TOLD.add(name);
    }

    static void finish() {
        int due = parts().length + signatures().size() + 1;
        Due.due("parts of the document that are told: " + TOLD, TOLD.size(), due);
    }

    private static String[] parts() {
        String ahead = whole().split("## Promise 1:")[0];
        String plain = ahead.replaceAll("(?s)```java\n.*?```", "").replaceAll("(?m)^#.*$|^```.*$", "");
        return plain.split("==== \\d\\.");
    }

    private static String whole() {
        try {
            return Files.readString(FILE);
        } catch (IOException unread) {
            throw new UncheckedIOException(unread);
        }
    }
}
