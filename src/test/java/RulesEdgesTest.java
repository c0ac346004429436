import java.util.ArrayList;
import java.util.List;

/** The boundary cases of promises 17 to 20: the TAPE, RULES as texts, FAULTS. */
public final class RulesEdgesTest {
    private static final String[] KEYWORDS = {"warn", "lift", "wait", "when", "or", "and", "not", "seen", "words",
        "doubtful", "near", "soon", "people", "left", "ears", "hour"};
    private static final String LINE = "wait when 1=1;";
    private static final int BLANKS = 0x20202020;

    public static void main(String[] args) {
        feed();
        highestFirst();
        end();
        rules();
        fault();
        everySign();
        signsInWords();
        keywords();
        numbers();
        theEnd();
        partsByZero();
        lines();
        open();
        firstAndLeast();
        everyTokenBehindEveryOther();
        wraps();
        towardsZero();
        order();
        Due.finish();
    }

    private static int blanks(StormOffice x) {
        return x.feed(BLANKS, BLANKS, BLANKS, BLANKS, BLANKS);
    }

    private static Edges.Story taped(int bytes) {
        return x -> {
            Due.tape(x, "lift when 1=1;" + " ".repeat(bytes - 14));
        };
    }

    private static void feed() {
        Edges.words(17, "how many it has; NONE, and nothing comes, if there would be more than 800");
        StormOffice x = new StormOffice();
        for (int has = 20; has <= 800; has += 20) Edges.due("to " + has, blanks(x), has);
        Edges.due("beyond 800", blanks(x), -1);
        Edges.due("beyond 800 again", blanks(x), -1);
        Edges.due("it still has 800", x.end(800), true);
        Edges.due("it has no 801", x.end(801), false);
        Edges.due("779 behind end", x.end(779), true);
        Edges.due("779 and 20", blanks(x), 799);
        Edges.due("799 and 20", blanks(x), -1);
        Edges.due("780 behind end", x.end(780), true);
        Edges.due("780 and 20", blanks(x), 800);
        Edges.due("781 behind end", x.end(781), true);
        Edges.due("781 and 20", blanks(x), -1);
        Edges.due("it still has 781", x.end(781), true);
        Edges.due("it has no 782", x.end(782), false);
        Edges.due("0 behind end", x.end(0), true);
        Edges.due("0 and 20", blanks(x), 20);
        Edges.due("1 behind end", x.end(1), true);
        Edges.due("1 and 20", blanks(x), 21);
        for (int bytes : new int[] {781, 799, 800}) {
            Edges.refused("behind " + bytes, taped(bytes), y -> y.feed(0x3b3b3b3b, -1, 0, 1, 2), -1);
            StormOffice y = Edges.after(taped(bytes));
            y.feed(0x3b3b3b3b, -1, 0, 1, 2);
            Edges.due("refused behind " + bytes + ", the text is as it was", y.rules(), 1);
        }
        StormOffice z = Edges.after(taped(780));
        Edges.due("taken behind 780", z.feed(BLANKS, BLANKS, BLANKS, BLANKS, 0x2020203b), 800);
        z.rules();
        Edges.due("taken behind 780, its last byte is read", z.fault(1), 799);
    }

    private static void highestFirst() {
        Edges.words(17, "Twenty bytes come behind the TAPE, of each number the highest first");
        for (int place = 0; place < 20; place++) {
            StormOffice x = new StormOffice();
            int[] numbers = {BLANKS, BLANKS, BLANKS, BLANKS, BLANKS};
            numbers[place / 4] ^= 0xdf << 8 * (3 - place % 4);
            x.feed(numbers[0], numbers[1], numbers[2], numbers[3], numbers[4]);
            Edges.due("a stray byte, 255", x.rules(), -1);
            Edges.due("a stray byte, its place", x.fault(1), place);
            StormOffice y = new StormOffice();
            blanks(y);
            y.end(7);
            y.feed(numbers[0], numbers[1], numbers[2], numbers[3], numbers[4]);
            y.rules();
            Edges.due("behind the seven that are there", y.fault(1), 7 + place);
        }
        StormOffice x = new StormOffice();
        x.feed(Integer.MIN_VALUE, Integer.MAX_VALUE, -1, 0, 1);
        Edges.due("any ints", x.end(20), true);
    }

    private static void end() {
        Edges.words(18, "false, changing nothing, if it has not so many, or n is below 0");
        Edges.bounds("n 0 .. 40", 0, 40, Edges.BUSY, (x, v) -> Edges.is(x.end(v)), 0, 1);
        Edges.bounds("n 0 .. 800", 0, 800, taped(800), (x, v) -> Edges.is(x.end(v)), 0, 1);
        Edges.bounds("n 0 alone", 0, 0, Edges.NEW, (x, v) -> Edges.is(x.end(v)), 0, 1);
        Edges.words(18, "The TAPE has its first n bytes alone");
        String text = "lift when 1=1;wait when 2=2;";
        int[] lines = new int[text.length() + 1];
        lines[0] = 0;
        for (int n = 1; n <= text.length(); n++) lines[n] = n == 14 ? 1 : n == 28 ? 2 : -1;
        for (int n = 0; n <= text.length(); n++) {
            StormOffice x = new StormOffice();
            Due.tape(x, text);
            Edges.due("first " + n, x.end(n), true);
            Edges.due("first " + n + " again", x.end(n), true);
            Edges.due("no more than " + n, x.end(n + 1), false);
            Edges.due("of the first " + n, x.rules(), lines[n]);
            if (lines[n] < 0) Edges.due("ends at " + n, x.fault(1) <= n, true);
        }
        StormOffice x = new StormOffice();
        Due.tape(x, text);
        x.end(14);
        x.feed(0x77616974, 0x20776865, 0x6e20333d, 0x333b2020, BLANKS);
        Edges.due("what was cut off is gone for good", x.rules(), 2);
        Edges.due("the new bytes stand there", x.asks(0, 9), 0);
    }

    private static void rules() {
        Edges.words(19, "The TAPE, empty then, are RULES: how many lines");
        StormOffice x = new StormOffice();
        Edges.due("an empty TAPE", x.rules(), 0);
        Edges.due("blanks alone", Due.rules(x, " \n "), 0);
        for (int lines : new int[] {1, 2, 15, 16}) {
            Edges.due(lines + " lines", Due.rules(x, LINE.repeat(lines)), lines);
            Edges.due("the TAPE is empty behind " + lines, x.end(1), false);
        }
        Edges.due("rules() again, of the empty TAPE", x.rules(), 0);
        Edges.due("no line is so any more", x.asks(0, 9), -1);
        Edges.words(19, "a TAPE of 800 bytes");
        Edges.due("the longest span", Due.rules(x, "    warn 1" + "+1".repeat(390) + " when 1=1;"), 1);
        StormOffice y = new StormOffice();
        String sum = "wait when 1" + "+1".repeat(392);
        Edges.due("the longest sum", Due.rules(y, sum + "=393;"), 1);
        Edges.due("its value", y.asks(0, 9), 0);
        Edges.due("the longest sum, another value", Due.rules(y, sum + "=394;"), 1);
        Edges.due("its value is not that", y.asks(0, 9), -1);
        String signs = "wait when " + "1=1or ".repeat(131) + "1=1;";
        Edges.due("as many conditions as there can be, " + signs.length(), Due.rules(y, signs), 1);
        Edges.due("it is so", y.asks(0, 9), 0);
        String ands = "wait when " + "1=1and ".repeat(112) + "1=2;";
        Edges.due("the last of them is not so, " + ands.length(), Due.rules(y, ands), 1);
        Edges.due("it is not so", y.asks(0, 9), -1);
        Edges.words(19, "NONE: a FAULT (they stay)");
        StormOffice z = new StormOffice();
        Due.rules(z, "wait when 1=2;lift when 1=1;");
        for (String wrong : new String[] {"x", "lift", "wait when 1=1;wait when 1=1", "warn 1/0 when 1=1;",
            LINE.repeat(17), "wait when " + "(".repeat(9) + "1=1" + ")".repeat(9) + ";"}) {
            Edges.due("a FAULT", Due.rules(z, wrong), -1);
            Edges.due("the line that was so is so", z.asks(0, 9), 1);
            Edges.due("the TAPE is empty behind a FAULT", z.end(1), false);
            Edges.due("the TAPE is empty behind a FAULT", blanks(z), 20);
            z.end(0);
        }
    }

    private static void fault() {
        Edges.words(20, "Of the latest rules(): 0 the FAULT (0 without one), 1 its place (NONE); NONE for another what");
        Edges.beyond("what 0 and 1", 0, 1, Edges.BUSY, (x, v) -> x.fault(v), -1);
        Edges.beyond("what 0 and 1, without a FAULT", 0, 1, Edges.NEW, (x, v) -> x.fault(v), -1);
        Edges.within("what 0 and 1", 0, 1, Edges.BUSY, (x, v) -> x.fault(v), (x, v) -> v == 0 ? 1 : 7);
        StormOffice x = new StormOffice();
        Edges.due("no rules() yet", x.fault(0), 0);
        Edges.due("no rules() yet, no place", x.fault(1), -1);
        Due.rules(x, "?");
        Edges.due("a FAULT at 0", x.fault(0), 1);
        Edges.due("a FAULT at 0, its place", x.fault(1), 0);
        Due.tape(x, LINE);
        Edges.due("feed and end leave it", x.fault(1), 0);
        x.rules();
        Edges.due("none of the latest", x.fault(0), 0);
        Edges.due("no place of the latest", x.fault(1), -1);
    }

    private static void good(String text, int lines) {
        StormOffice x = new StormOffice();
        Edges.due("lines of '" + text + "'", Due.rules(x, text), lines);
        Edges.due("no FAULT of '" + text + "'", x.fault(0), 0);
        Edges.due("no place of '" + text + "'", x.fault(1), -1);
    }

    private static void bad(String text, int kind, int place) {
        StormOffice x = new StormOffice();
        Edges.due("lines of '" + text + "'", Due.rules(x, text), -1);
        Edges.due("FAULT of '" + text + "'", x.fault(0), kind);
        Edges.due("place of '" + text + "'", x.fault(1), place);
    }

    private static void everySign() {
        Edges.words(20, "Blanks (32, 10) between");
        for (int sign = 0; sign < 256; sign++) {
            String text = LINE + (char) sign;
            if (sign == 32 || sign == 10) good(text, 1);
            else bad(text, 1, 14);
            String between = "wait when" + (char) sign + "1=1;";
            boolean letter = sign >= 'a' && sign <= 'z' || sign >= 'A' && sign <= 'Z';
            if (sign == 32 || sign == 10) good(between, 1);
            else if (letter) bad(between, 1, 5);
            // A digit is the NUMBER's first one, a ( wants its ).
            else if (sign >= '0' && sign <= '9') good(between, 1);
            else if (sign == '(') bad(between, 1, 13);
            else bad(between, 1, 9);
        }
        good("\n\nwait\n when\n\n1 = \n1 ; \n", 1);
        bad("wait when 1\t=1;", 1, 11);
        bad("wait when 1\r\n=1;", 1, 11);
    }

    private static void signsInWords() {
        Edges.words(20, "letters as many as stand together; digits as many as stand together");
        for (int sign = 0; sign < 256; sign++) {
            String text = "wait when near" + (char) sign + "=1;";
            boolean letter = sign >= 'a' && sign <= 'z' || sign >= 'A' && sign <= 'Z';
            boolean sum = sign == '+' || sign == '-' || sign == '*' || sign == '/';
            boolean compares = sign == '<' || sign == '=' || sign == '>';
            if (sign == 32 || sign == 10) good(text, 1);
            else if (letter) bad(text, 1, 10);
            else bad(text, 1, sum || compares ? 15 : 14);
            String number = "wait when 9" + (char) sign + "9>1;";
            boolean digit = sign >= '0' && sign <= '9';
            if (digit || sum) good(number, 1);
            else if (sign == 32 || sign == 10) bad(number, 1, 12);
            else bad(number, 1, compares ? 13 : 11);
        }
        good("wait when 1=1and 1=1or 1=1;", 1);
        bad("wait when 1=1andnot 1=1;", 1, 13);
        bad("waitwhen 1=1;", 1, 0);
        bad("wait when1=1", 1, 12);
        good("wait when1=1;", 1);
        good("wait when(1=1)and(1=1);", 1);
        good("wait when not(1=1);lift when 1=1;", 2);
        bad("wait when near 1=1;", 1, 15);
        bad("wait when 1 1=1;", 1, 12);
        bad("wait when ne ar=1;", 1, 10);
    }

    private static void keywords() {
        Edges.words(20, "KEYWORDS (those told here) or none");
        for (int i = 0; i < KEYWORDS.length; i++) {
            String word = KEYWORDS[i];
            String ahead = i < 3 ? "" : i == 3 ? "wait " : i < 6 ? "wait when 1=1 " : "wait when ";
            String behind = i == 0 ? " 1 when 1=1;" : i < 3 ? " when 1=1;" : i < 7 ? " 1=1;" : "=1;";
            good(ahead + word + behind, 1);
            bad(ahead + word.substring(1) + behind, 1, ahead.length());
            bad(ahead + word.substring(0, word.length() - 1) + behind, 1, ahead.length());
            bad(ahead + word + word.charAt(word.length() - 1) + behind, 1, ahead.length());
            bad(ahead + Character.toUpperCase(word.charAt(0)) + word.substring(1) + behind, 1, ahead.length());
            bad(ahead + word.toUpperCase() + behind, 1, ahead.length());
        }
    }

    private static void numbers() {
        Edges.words(20, "NUMBERS of 1 to 4 digits or none");
        for (String number : new String[] {"0", "1", "9", "10", "99", "100", "999", "1000", "9999", "00", "0000", "0001"}) {
            good("wait when 1=" + number + ";", 1);
            good("warn " + number + " when 1=1;", 1);
            so(number + "=" + Integer.parseInt(number), true);
        }
        for (String number : new String[] {"10000", "00000", "00001", "12345", "99999", "2147483648", "4294967297"}) {
            bad("wait when 1=" + number + ";", 1, 12);
            bad("warn " + number + " when 1=1;", 1, 5);
            bad("warn 1/" + number + " when 1=1;", 1, 7);
        }
        bad("wait when 1=" + "0".repeat(300) + ";", 1, 12);
    }

    private static void theEnd() {
        Edges.words(20, "1 what can't stand there (the end: the text's length)");
        String text = "warn 1+2*3/4 when not(1=1 and 1<2 or 1>2);";
        for (int n = 1; n < text.length(); n++) {
            String begun = text.substring(0, n);
            // A KEYWORD that has been cut short can't stand where it begins; the end is what is wrong elsewhere.
            int word = n;
            while (word > 0 && Character.isLetter(text.charAt(word - 1))) word--;
            boolean cutShort = word < n && n < text.length() && Character.isLetter(text.charAt(n));
            bad(begun, 1, cutShort ? word : n);
            if (!cutShort) bad(begun + "  \n", 1, n + 3);
        }
        good(text, 1);
        good(text + "   ", 1);
        bad(LINE + "w", 1, 14);
        bad(LINE + "wait", 1, 18);
        for (String last : new String[] {"lift", "lift when", "lift when 1", "lift when 1=1", "lift when 1=1)", "warn 1/9999"}) {
            bad(" ".repeat(800 - last.length()) + last, 1, last.endsWith(")") ? 799 : 800);
        }
        good(" ".repeat(786) + LINE, 1);
        // What end() cut off is not part of a token that stands at the end.
        for (String whole : new String[] {"wait when 1=12345", "wait when 1=1and1", "waitx", "wait when nearx", "wait when 1=1;;"}) {
            StormOffice x = new StormOffice();
            Due.tape(x, whole);
            x.end(whole.length() - 1);
            boolean complete = whole.endsWith(";;");
            Edges.due("cut behind '" + whole + "'", x.rules(), complete ? 1 : -1);
            Edges.due("cut behind '" + whole + "', its place", x.fault(1), complete ? -1 : whole.length() - 1);
        }
        bad("lift" + " ".repeat(796), 1, 800);
    }

    private static void partsByZero() {
        Edges.words(20, "2 (at the NUMBER) a part by 0");
        for (int zeros = 1; zeros <= 4; zeros++) {
            bad("warn 6/" + "0".repeat(zeros) + " when 1=1;", 2, 7);
            bad("wait when 6/\n " + "0".repeat(zeros) + "=1;", 2, 14);
        }
        bad("warn 6/00000 when 1=1;", 1, 7);
        good("warn 6/1 when 1=1;", 1);
        good("warn 6/0001 when 1=1;", 1);
        good("warn 0/1 when 0/2=0*0;", 1);
        good("warn 0 when 0<0;", 1);
        bad("warn 6/5/0 when 1=1;", 2, 9);
        bad("warn 6/0/0 when 1=1;", 2, 7);
        bad("warn 6*0/0 when 1=1;", 2, 9);
        bad("warn 6+0/0 when 1=1;", 2, 9);
        bad("wait when 1=1 and 1=seen/0;", 2, 25);
        bad("wait when 1=1;wait when 1=2/0;", 2, 28);
        bad("warn 6/near when 1=1;", 1, 7);
        bad("warn 6/(2) when 1=1;", 1, 7);
        bad("warn 6/-1 when 1=1;", 1, 7);
        bad("warn 6/ when 1=1;", 1, 8);
    }

    private static void lines() {
        Edges.words(20, "3 (at its KEYWORD) the 17th line");
        good(LINE.repeat(15), 15);
        good(LINE.repeat(16), 16);
        good(LINE.repeat(16) + "\n  ", 16);
        for (String deed : new String[] {"wait when 1=1;", "warn 1 when 1=1;", "lift when 1=1;"}) {
            bad(LINE.repeat(16) + deed, 3, 224);
            bad(LINE.repeat(16) + "  " + deed, 3, 226);
            good(LINE.repeat(15) + deed, 16);
            bad(deed.repeat(17), 3, 16 * deed.length());
            bad(LINE.repeat(16) + deed.substring(0, 4), 3, 224);
            bad(LINE.repeat(16) + deed + "?", 3, 224);
        }
        bad(LINE.repeat(16) + "warn 1/0 when", 3, 224);
        bad(LINE.repeat(16) + "when", 1, 224);
        bad(LINE.repeat(16) + ";", 1, 224);
        bad(LINE.repeat(16) + "war", 1, 224);
        bad(LINE.repeat(16) + "near", 1, 224);
        bad(LINE.repeat(15) + "wait when 1=1" + LINE, 1, 15 * 14 + 13);
        StormOffice x = new StormOffice();
        Due.rules(x, "wait when 1=2;".repeat(15) + LINE);
        Edges.due("the 16th line is so", x.asks(0, 9), 15);
        bad(LINE.repeat(57), 3, 224);
    }

    private static void open() {
        Edges.words(20, "3 (at it) the 9th ( or not that is open");
        for (int deep = 1; deep <= 9; deep++) {
            String brackets = "wait when " + "(".repeat(deep) + "1=1" + ")".repeat(deep) + ";";
            String nots = "wait when " + "not ".repeat(deep) + "1=1;";
            if (deep <= 8) {
                good(brackets, 1);
                good(nots, 1);
            } else {
                bad(brackets, 3, 18);
                bad(nots, 3, 42);
            }
        }
        // Each of the eight places is either a ( or a not, and so is the ninth.
        for (int set = 0; set < 512; set++) {
            StringBuilder text = new StringBuilder("wait when ");
            StringBuilder close = new StringBuilder();
            int ninth = 0;
            for (int i = 0; i < 9; i++) {
                boolean not = (set >> i & 1) == 1;
                if (i == 8) {
                    good(text + "1=1" + close + ";", 1);
                    ninth = text.length();
                }
                text.append(not ? "not " : "(");
                close.append(not ? "" : ")");
            }
            bad(text + "1=1" + close + ";", 3, ninth);
        }
        String eight = "(".repeat(8) + "1=1" + ")".repeat(8);
        good("wait when " + eight + " and " + eight + " or " + eight + ";wait when " + eight + ";", 2);
        String nots = "not ".repeat(8) + "1=1";
        good("wait when " + nots + " and " + nots + " or " + nots + ";wait when " + nots + ";", 2);
        good("wait when ((((((((1=1)and(1=1))or not 1=1)))))and 1=1);", 1);
        bad("wait when ((((((((1=1)and(1=1)and((1=1", 3, 34);
        good("wait when (not not not not not not not 1=1 and not not not not not not not 1=1);", 1);
        bad("wait when (not not not not not not not 1=1 and not not not not not not not not 1=1);", 3, 75);
        bad("wait when not (not 1=1 and not not not not not not not 1=1);", 3, 51);
        good("wait when not (not 1=1 and not not not not not not 1=1);", 1);
        bad("wait when ((((((((1(", 1, 19);
        bad("wait when ((((((((1 not 1=1", 1, 20);
        bad("wait when ((((((((warn", 1, 18);
        bad("wait when ((((((((", 1, 18);
        bad("wait when (((((((((", 3, 18);
        bad("warn 1=1 (((((((((", 1, 6);
    }

    private static void firstAndLeast() {
        Edges.words(20, "FAULTS, the first by its place, at one place the least");
        bad("warn 1/0 when (((((((((1=1", 2, 7);
        bad("wait when (((((((((1/0=1", 3, 18);
        bad("wait when ((((((((1/0=1", 2, 20);
        bad("wait when 1/0 ?", 2, 12);
        bad("wait when ? 1/0", 1, 10);
        bad("wait when 1=1 1/0;", 1, 14);
        bad(LINE.repeat(15) + "wait when 1/0=1;wait", 2, 15 * 14 + 12);
        bad(LINE.repeat(16) + "00000", 1, 224);
        bad(LINE.repeat(16) + "(", 1, 224);
        bad("wait when " + "not ".repeat(8) + "notx 1=1;", 1, 42);
        bad("wait when " + "not ".repeat(9) + "?", 3, 42);
        bad("wait when 1/00000=1;", 1, 12);
        bad("wait when 1=1 or 1/0=1 or ?;", 2, 19);
    }

    /** Behind each beginning of a text each token is tried; what is due there the grammar tells (RuleText). */
    private static void everyTokenBehindEveryOther() {
        Edges.words(20, "1 what can't stand there");
        String[] tokens = {"warn", "lift", "wait", "when", "or", "and", "not", "seen", "words", "doubtful", "near", "soon",
            "people", "left", "ears", "hour", "7", "0", "12345", "x", ";", "+", "-", "*", "/", "(", ")", "<", "=", ">", "?", ""};
        String[] texts = {"warn 1 + seen * 2 / 3 - near when 4 < ears and not ( soon > 5 or hour = 6 ) ; lift when not 1 = 2 ;",
            "wait when ( ( 1 = 1 ) and not not ( 2 > left / 3 ) ) or words = 1 ; warn 1 when 1 = 1 ;"};
        for (String text : texts) {
            String[] parts = text.split(" ");
            List<String> begun = new ArrayList<>();
            begun.add("");
            for (String part : parts) begun.add(begun.get(begun.size() - 1) + part + " ");
            for (String ahead : begun) {
                for (String token : tokens) {
                    String whole = ahead + token;
                    int[] due = new RuleText(whole).fault();
                    StormOffice x = new StormOffice();
                    Edges.due("whether there is a FAULT in '" + whole + "'", Due.rules(x, whole) < 0, due[0] != 0);
                    Edges.due("the FAULT of '" + whole + "'", x.fault(0), due[0]);
                    Edges.due("the place in '" + whole + "'", x.fault(1), due[1]);
                }
            }
        }
    }

    private static void so(String condition, boolean want) {
        StormOffice x = new StormOffice();
        Edges.due("lines of '" + condition + "'", Due.rules(x, "wait when " + condition + ";"), 1);
        Edges.due("'" + condition + "'", x.asks(0, 9), want ? 0 : -1);
    }

    private static void wraps() {
        Edges.words(19, "Ints, which wrap");
        // 2147483647 by NUMBERS of four digits.
        String most = "9999*9999*21+9999*4790+8416";
        so(most + ">9999*9999", true);
        so(most + "+1<0", true);
        so(most + "+1=0-9999*9999*21-9999*4790-8416-1", true);
        so(most + "+1-1>0", true);
        so("0-9999*9999*21-9999*4790-8416<0", true);
        so("0-9999*9999*21-9999*4790-8416-1<0", true);
        so("0-9999*9999*21-9999*4790-8416-2>0", true);
        so("0-9999*9999*21-9999*4790-8416-2=" + most, true);
        so("9999*9999*21>0", true);
        so("9999*9999*22<0", true);
        so("9999*9999*42<0", true);
        so("9999*9999*43>0", true);
        so("4096*4096*256=0", true);
        so("4096*4096*128<0", true);
        so("4096*4096*128=0-4096*4096*128", true);
        so("4096*4096*127+4096*4096=4096*4096*128", true);
        so("4096*4096*128-1>0", true);
        so("4096*4096*128/1=4096*4096*128", true);
        so("4096*4096*128/2=0-4096*4096*64", true);
    }

    private static void towardsZero() {
        Edges.words(19, "/ goes towards 0");
        so("7/2=3", true);
        so("8/2=4", true);
        so("1/2=0", true);
        so("0/2=0", true);
        so("9999/9999=1", true);
        so("9998/9999=0", true);
        // 4096*4096*128 is -2147483648, 4096*4096*255 is -16777216, 9999*9999*22 is -2095407274.
        so("4096*4096*128/3=0-4096*4096*42-4096*2730-2730", true);
        so("4096*4096*255/9999=0-1677", true);
        so("4096*4096*255/4096/4096=0-1", true);
        so("4096*4096*255/4096/4097=0", true);
        so("4096*4096*255/4096/4095=0-1", true);
        so("9999*9999*22/3*3=9999*9999*22+1", true);
        so("4096*4096*255/7*7=4096*4096*255+1", true);
    }

    private static void order() {
        Edges.words(19, "B = A {or A}. A = C {and C}. E = T {(+ | -) T}. T = U {* U | / NUMBER}");
        boolean[] both = {false, true};
        for (boolean a : both) for (boolean b : both) for (boolean c : both) {
            String x = a ? "1=1" : "1=2", y = b ? "2<3" : "3<2", z = c ? "5>4" : "4>4";
            so(x + " or " + y + " and " + z, a || b && c);
            so(x + " and " + y + " or " + z, a && b || c);
            so(x + " or " + y + " or " + z, a || b || c);
            so(x + " and " + y + " and " + z, a && b && c);
            so("(" + x + " or " + y + ") and " + z, (a || b) && c);
            so(x + " and (" + y + " or " + z + ")", a && (b || c));
            so("not " + x + " and " + y + " or not " + z, !a && b || !c);
            so("not (" + x + " and " + y + " or " + z + ")", !(a && b || c));
            so("not " + x + " or " + y + " and not not " + z, !a || b && c);
            so(x + " or " + y + " and " + z + " or " + y + " and not " + z, a || b);
        }
        for (int deep = 0; deep <= 8; deep++) {
            // At each ( an or and an and wait for what comes behind it, and at last a sum and a product.
            for (boolean is : both) {
                String inner = "1=2 or 1=1 and 5=1+2*" + (is ? "2" : "3");
                so("1=2 or 1=1 and (".repeat(deep) + inner + ")".repeat(deep), is);
                so("1=2 or 1=1 and not (".repeat(deep / 2) + inner + ")".repeat(deep / 2), is == (deep / 2 % 2 == 0));
            }
        }
        so("9-4-3=2", true);
        so("9-4+3=8", true);
        so("2+3*4-5=9", true);
        so("2*3+4*5=26", true);
        so("7/2*2=6", true);
        so("2*7/2=7", true);
        so("100/7/3=4", true);
        so("1<1", false);
        so("1<2", true);
        so("2<1", false);
        so("1>1", false);
        so("2>1", true);
        so("1>2", false);
        so("1=1", true);
        so("1=2", false);
        so("1+1=2*1", true);
    }
}
