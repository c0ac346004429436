import java.lang.reflect.Field;
import java.lang.reflect.Method;
import java.lang.reflect.Modifier;
import java.nio.file.Files;
import java.nio.file.Path;
import java.util.Arrays;
import java.util.List;
import java.util.Set;
import java.util.TreeSet;

/** The rules of LANGUAGE.md that a program can look at, and the face of the document. Run from the project's root. */
public final class LanguageTest {
    private static final String[] FACE = {
        "boolean land(int,int,int,int)", "boolean siren(int,boolean)", "boolean storm(int,int)",
        "boolean radar(int,int,int,int)", "boolean blind(int,int,boolean)", "int of(int,int)",
        "boolean seen(int,int,int)", "boolean bare(int,int)", "boolean word(int,int,int)", "int maybe(int,int,int)",
        "int count(int,int,int)", "int quarrel(int)", "long paths(int)", "long missed(int,int)", "int box(int,int,int)",
        "int feed(int,int,int,int,int)", "boolean end(int)", "int rules()", "int fault(int)", "void on(boolean)",
        "int asks(int,int)", "int minutes(int)", "int warn(int,int)", "boolean lift(int)", "int warning(int,int)",
        "int look(int)", "boolean truth(int,int)", "int safe(int,int)", "int found(int,int)", "int judge()",
        "int entries(int,int)", "boolean post(int,int,int)", "int posts(int,int)"};

    public static void main(String[] args) throws Exception {
        face();
        for (Class<?> nested : StormOffice.class.getDeclaredClasses()) {
            Due.due(nested + " is static", Modifier.isStatic(nested.getModifiers()), true);
            Due.due(nested + " is not public", Modifier.isPublic(nested.getModifiers()), false);
            members(nested);
        }
        members(StormOffice.class);
        Due.due("classes in all", StormOffice.class.getDeclaredClasses().length + 1 <= 12, true);
        text();
        room();
        Due.finish();
    }

    /** All objects of a run live in one room, so that calls may make none: rows are made with the object and used again. */
    private static void room() {
        com.sun.management.ThreadMXBean thread =
                (com.sun.management.ThreadMXBean) java.lang.management.ManagementFactory.getThreadMXBean();
        StormOffice x = Edges.after(Edges.BUSY);
        dearestCalls(x);
        long before = thread.getCurrentThreadAllocatedBytes();
        for (int i = 0; i < 10; i++) dearestCalls(x);
        long bytes = thread.getCurrentThreadAllocatedBytes() - before;
        Due.due("bytes of what 140 calls made: " + bytes, bytes < 2000, true);
    }

    private static void dearestCalls(StormOffice x) {
        x.box(12, 500, 0);
        x.missed(12, 3);
        x.paths(12);
        x.count(719, 0, 1);
        x.quarrel(20);
        x.posts(3, 0);
        x.found(0, 20);
        x.entries(0, 2);
        x.asks(3, 9);
        x.feed(0x6c696674, 0x20776865, 0x6e203120, 0x3d203120, 0x3b0a0a20);
        x.rules();
        x.minutes(1);
        x.judge();
        x.safe(20, 8);
    }

    private static void face() {
        Set<String> want = new TreeSet<>(Arrays.asList(FACE));
        Set<String> got = new TreeSet<>();
        for (Method m : StormOffice.class.getDeclaredMethods()) {
            if (Modifier.isPrivate(m.getModifiers())) continue;
            StringBuilder types = new StringBuilder();
            for (Class<?> type : m.getParameterTypes()) types.append(types.length() == 0 ? "" : ",").append(type);
            got.add(m.getReturnType() + " " + m.getName() + "(" + types + ")");
            Due.due(m + " is public", Modifier.isPublic(m.getModifiers()), true);
        }
        Due.due("the face: " + got, got.equals(want), true);
        Due.due("the class is final", Modifier.isFinal(StormOffice.class.getModifiers()), true);
        Due.due("constructors", StormOffice.class.getConstructors().length, 1);
        for (Field f : StormOffice.class.getDeclaredFields()) {
            Due.due(f + " is private", Modifier.isPrivate(f.getModifiers()), !f.getName().equals("NONE"));
        }
    }

    private static void members(Class<?> it) {
        Set<String> names = new TreeSet<>();
        for (String signature : FACE) names.add(signature.replaceAll("^\\S+ (\\w+).*$", "$1"));
        int fields = 0;
        for (Field f : it.getDeclaredFields()) {
            if (Modifier.isStatic(f.getModifiers())) {
                Due.due(f + " is final", Modifier.isFinal(f.getModifiers()), true);
            } else {
                fields++;
            }
        }
        Due.due(it + " has few fields", fields <= 20, true);
        for (Method m : it.getDeclaredMethods()) {
            Due.due(m + " has few parameters", m.getParameterCount() <= 7, true);
            boolean ofTheFace = it == StormOffice.class && Modifier.isPublic(m.getModifiers());
            Due.due(m + " has a name of its own", !names.contains(m.getName()) || ofTheFace, true);
        }
    }

    private static void text() throws Exception {
        List<String> lines = Files.readAllLines(Path.of("src/main/java/StormOffice.java"));
        String[] forbidden = {"throw", "throws", "try", "catch", "finally", "synchronized", "assert", "package", "->", "::",
            "@", "Exact", "Object", "hashCode", "toString", "System.nanoTime", "Random"};
        int inMethod = 0;
        for (String line : lines) {
            String code = line.replaceAll("//.*$|^\\s*/?\\*.*$", "");
            for (String word : forbidden) {
                boolean has = word.matches("\\w+") ? code.matches(".*\\b" + word + "\\b.*") : code.contains(word);
                Due.due("'" + word + "' in: " + line, has, false);
            }
            if (code.startsWith("import")) Due.due(line, code.equals("import java.util.Arrays;"), true);
            Due.due("only signs 1 to 127: " + line, line.chars().allMatch(c -> c >= 1 && c <= 127), true);
            boolean opens = code.matches("^ {4}(    )?[a-zA-Z].*\\(.*\\) \\{$") && !code.contains(" class ");
            inMethod = opens ? 1 : code.matches("^ {4}(    )?\\}$") ? 0 : inMethod == 0 ? 0 : inMethod + 1;
            Due.due("a method of over sixty lines at: " + line, inMethod <= 60, true);
        }
    }
}
