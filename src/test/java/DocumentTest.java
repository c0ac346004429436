import java.lang.reflect.Field;
import java.lang.reflect.Method;
import java.lang.reflect.Modifier;
import java.util.ArrayList;
import java.util.Arrays;
import java.util.List;
import java.util.Set;
import java.util.TreeSet;

/**
 * The document from its first line to its last: each sentence is told in its own words, and tested. It fails, too,
 * where a sentence of the document is passed over. Run from the project's root.
 */
public final class DocumentTest {
    public static void main(String[] args) {
        face();
        HeartTerms.test();
        RulesTerms.test();
        Promises.test();
        notPromised();
        Doc.finish();
        Due.finish();
    }

    private static void face() {
        List<String> face = Doc.face();
        List<String> signatures = new ArrayList<>();
        for (String line : face) {
            if (line.contains("(")) signatures.add(line.replace("public ", "").replace(";", ""));
        }
        Due.due("each of the face has a promise, in its order: " + signatures, signatures.equals(Doc.signatures()), true);
        Set<String> due = new TreeSet<>();
        for (String line : face) due.add(line.replaceAll("(int|boolean) \\w+([,)])", "$1$2").replace(";", ""));
        Set<String> is = new TreeSet<>();
        is.add("public StormOffice()");
        for (Field f : StormOffice.class.getFields()) is.add(constant(f));
        for (Method m : StormOffice.class.getMethods()) {
            if (m.getDeclaringClass() != StormOffice.class) continue;
            String types = Arrays.toString(m.getParameterTypes());
            is.add("public " + m.getReturnType() + " " + m.getName() + "(" + types.substring(1, types.length() - 1) + ")");
        }
        Due.due("the public face is " + is + ", due is " + due, is.equals(due), true);
        Due.due("one constructor", StormOffice.class.getConstructors().length, 1);
        Due.due("without parameters", StormOffice.class.getConstructors()[0].getParameterCount(), 0);
        Due.due("public and final", StormOffice.class.getModifiers(), Modifier.PUBLIC | Modifier.FINAL);
    }

    private static String constant(Field f) {
        return Modifier.toString(f.getModifiers()) + " " + f.getType() + " " + f.getName() + " = " + StormOffice.NONE;
    }

    private static void notPromised() {
        Doc doc = Doc.notPromised();
        doc.says("How the state is held inside the object is free, as are the speed of each call, the text of toString and the"
                + " behaviour of equals and hashCode. Use of one object from several threads at once is not promised to be safe.");
        doc.says("Nothing is promised beyond the answers and state changes described above, and nothing about an object after its"
                + " 512th call.");
        changesNothing("of", x -> x.of(8, 4));
        changesNothing("maybe", x -> x.maybe(719, 0, 8));
        changesNothing("count", x -> x.count(3, 20, 1));
        changesNothing("quarrel", x -> x.quarrel(20));
        changesNothing("paths", x -> x.paths(12));
        changesNothing("missed", x -> x.missed(12, 3));
        changesNothing("box", x -> x.box(12, 100, 0));
        changesNothing("fault", x -> x.fault(1));
        changesNothing("asks", x -> x.asks(3, 9));
        changesNothing("warning", x -> x.warning(0, 2));
        changesNothing("look", x -> x.look(3));
        changesNothing("safe", x -> x.safe(21, 8));
        changesNothing("found", x -> x.found(0, 20));
        changesNothing("entries", x -> x.entries(1, 2));
        changesNothing("posts", x -> x.posts(2, 0));
        doc.end();
    }

    /** A call that asks changes nothing that later calls show. */
    private static void changesNothing(String name, Edges.Call asking) {
        long[] without = Shown.after(Edges.BUSY, x -> 0);
        int differs = Arrays.mismatch(without, Shown.after(Edges.BUSY, asking));
        Edges.due(name + ": the place of what later calls show", differs, -1);
    }
}
