import java.util.ArrayList;
import java.util.HashSet;
import java.util.List;
import java.util.Map;
import java.util.Set;

/**
 * A TEXT of RULES by the grammar itself: an Earley recogniser tells the first token that can't stand
 * where it is, and the other FAULTS are looked for apart from it.
 */
final class RuleText {
    private static final Set<String> KEYWORDS = Set.of("warn", "lift", "wait", "when", "or", "and", "not",
            "seen", "words", "doubtful", "near", "soon", "people", "left", "ears", "hour");
    private static final List<String> ASKED =
            List.of("seen", "words", "doubtful", "near", "soon", "people", "left", "ears", "hour");
    private static final Map<String, String[]> GRAMMAR = Map.of(
            "TEXT", new String[] {"", "LINE TEXT"},
            "LINE", new String[] {"warn E when B ;", "lift when B ;", "wait when B ;"},
            "B", new String[] {"A", "B or A"},
            "A", new String[] {"C", "A and C"},
            "C", new String[] {"E < E", "E = E", "E > E", "not C", "( B )"},
            "E", new String[] {"T", "E + T", "E - T"},
            "T", new String[] {"U", "T * U", "T / NUMBER"},
            "U", new String[] {"NUMBER", "seen", "words", "doubtful", "near", "soon", "people", "left", "ears", "hour"});

    record Token(String kind, int value, int place) { }

    record Item(String left, List<String> right, int dot, int origin) {
        String next() {
            return dot < right.size() ? right.get(dot) : null;
        }

        Item moved() {
            return new Item(left, right, dot + 1, origin);
        }
    }

    private final List<Token> tokens = new ArrayList<>();
    private final List<List<Token>> lines = new ArrayList<>();
    private final int length;
    private final int[] fault;
    private List<Token> reading;
    private int at;

    RuleText(String text) {
        length = text.length();
        scan(text);
        fault = findFault();
        if (fault[0] == 0) splitLines();
    }

    int[] fault() {
        return fault;
    }

    List<List<Token>> lines() {
        return lines;
    }

    private void scan(String text) {
        int i = 0;
        while (i < text.length()) {
            int from = i;
            String rest = text.substring(i);
            String word = rest.replaceFirst("(?s)^([a-zA-Z]*).*$", "$1");
            String digits = rest.replaceFirst("(?s)^([0-9]*).*$", "$1");
            char sign = text.charAt(i);
            if (sign == ' ' || sign == '\n') {
                i++;
            } else if (!word.isEmpty()) {
                tokens.add(new Token(KEYWORDS.contains(word) ? word : "?", 0, from));
                i += word.length();
            } else if (!digits.isEmpty()) {
                boolean number = digits.length() <= 4;
                tokens.add(new Token(number ? "NUMBER" : "?", number ? Integer.parseInt(digits) : 0, from));
                i += digits.length();
            } else {
                tokens.add(new Token(";+-*/()<=>".indexOf(sign) >= 0 ? String.valueOf(sign) : "?", 0, from));
                i++;
            }
        }
    }

    private int[] findFault() {
        int wrongToken = firstWrongToken();
        int place = wrongToken < 0 ? Integer.MAX_VALUE : wrongToken == tokens.size() ? length : tokens.get(wrongToken).place;
        int[] first = {wrongToken < 0 ? 0 : 1, wrongToken < 0 ? -1 : place};
        int until = wrongToken < 0 ? tokens.size() : wrongToken;
        int begun = 0;
        StringBuilder open = new StringBuilder();
        for (int i = 0; i < until; i++) {
            Token t = tokens.get(i);
            if (t.kind.equals("NUMBER") && t.value == 0 && i > 0 && tokens.get(i - 1).kind.equals("/")) {
                return new int[] {2, t.place};
            }
            if (Set.of("warn", "lift", "wait").contains(t.kind) && ++begun == 17) return new int[] {3, t.place};
            if (Set.of("and", "or", ")", ";").contains(t.kind)) dropNots(open);
            if (t.kind.equals(")")) {
                open.setLength(open.length() - 1);
                dropNots(open);
            }
            if (t.kind.equals("(") || t.kind.equals("not")) {
                open.append(t.kind.charAt(0));
                if (open.length() == 9) return new int[] {3, t.place};
            }
        }
        return first;
    }

    private static void dropNots(StringBuilder open) {
        while (open.length() > 0 && open.charAt(open.length() - 1) == 'n') open.setLength(open.length() - 1);
    }

    /** The place among the tokens of the first that can't stand there; their number for the end; -1 for none. */
    private int firstWrongToken() {
        List<List<Item>> sets = new ArrayList<>();
        List<Item> first = new ArrayList<>();
        for (String right : GRAMMAR.get("TEXT")) first.add(item("TEXT", right, 0));
        close(first, 0, sets);
        for (int i = 0; i < tokens.size(); i++) {
            List<Item> next = new ArrayList<>();
            for (Item it : sets.get(i)) {
                if (tokens.get(i).kind.equals(it.next())) next.add(it.moved());
            }
            if (next.isEmpty()) return i;
            close(next, i + 1, sets);
        }
        for (Item it : sets.get(tokens.size())) {
            if (it.left.equals("TEXT") && it.origin == 0 && it.next() == null) return -1;
        }
        return tokens.size();
    }

    private static Item item(String left, String right, int origin) {
        return new Item(left, right.isEmpty() ? List.of() : List.of(right.split(" ")), 0, origin);
    }

    private static void close(List<Item> set, int here, List<List<Item>> sets) {
        Set<Item> had = new HashSet<>(set);
        sets.add(set);
        for (int i = 0; i < set.size(); i++) {
            Item it = set.get(i);
            List<Item> more = new ArrayList<>();
            if (it.next() == null) {
                for (Item waiting : new ArrayList<>(sets.get(it.origin))) {
                    if (it.left.equals(waiting.next())) more.add(waiting.moved());
                }
            } else if (GRAMMAR.containsKey(it.next())) {
                for (String right : GRAMMAR.get(it.next())) more.add(item(it.next(), right, here));
                // An empty TEXT is ended at once.
                if (it.next().equals("TEXT")) more.add(it.moved());
            }
            for (Item m : more) if (had.add(m)) set.add(m);
        }
    }

    private void splitLines() {
        List<Token> line = new ArrayList<>();
        for (Token t : tokens) {
            line.add(t);
            if (t.kind.equals(";")) {
                lines.add(line);
                line = new ArrayList<>();
            }
        }
    }

    int firstTrue(int[] answers) {
        for (int i = 0; i < lines.size(); i++) {
            List<Token> line = lines.get(i);
            int when = 0;
            while (!line.get(when).kind.equals("when")) when++;
            reading = line;
            at = when + 1;
            if (any(answers)) return i;
        }
        return -1;
    }

    String deed(int line) {
        return lines.get(line).get(0).kind;
    }

    int span(int line, int[] answers) {
        reading = lines.get(line);
        at = 1;
        return sum(answers);
    }

    private boolean is(String... kinds) {
        return at < reading.size() && List.of(kinds).contains(reading.get(at).kind);
    }

    private boolean any(int[] answers) {
        boolean is = all(answers);
        while (is("or")) {
            at++;
            is |= all(answers);
        }
        return is;
    }

    private boolean all(int[] answers) {
        boolean is = condition(answers);
        while (is("and")) {
            at++;
            is &= condition(answers);
        }
        return is;
    }

    private boolean condition(int[] answers) {
        if (is("not")) {
            at++;
            return !condition(answers);
        }
        if (is("(")) {
            at++;
            boolean is = any(answers);
            at++;
            return is;
        }
        int left = sum(answers);
        String sign = reading.get(at++).kind;
        int right = sum(answers);
        return sign.equals("<") ? left < right : sign.equals("=") ? left == right : left > right;
    }

    private int sum(int[] answers) {
        int value = product(answers);
        while (is("+", "-")) {
            boolean plus = reading.get(at++).kind.equals("+");
            int more = product(answers);
            value = plus ? value + more : value - more;
        }
        return value;
    }

    private int product(int[] answers) {
        int value = unit(answers);
        while (is("*", "/")) {
            boolean times = reading.get(at++).kind.equals("*");
            int by = unit(answers);
            value = times ? value * by : value / by;
        }
        return value;
    }

    private int unit(int[] answers) {
        Token t = reading.get(at++);
        return t.kind.equals("NUMBER") ? t.value : answers[ASKED.indexOf(t.kind)];
    }
}
