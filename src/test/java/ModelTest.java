import java.util.Random;

/** Many runs of calls that look random, on StormOffice and on the Model beside it. */
public final class ModelTest {
    private static final String[] UNITS = {"seen", "words", "doubtful", "near", "soon", "people", "left", "ears", "hour"};
    private static final String[] STRAY = {"(", ")", "not ", " or ", " and ", "0", "/0", "12345", "x", ";", "when ", "warn ",
        "lift ", "=", "<", "+", "*", "/", "\n", "\t", "\u00e9", "Warn", ".", "wait when 1=1;", "((((", "not not not not ",
        "not(not(", "seen", "00000", "0000"};

    private final Random random;
    private final StormOffice office = new StormOffice();
    private final Model model = new Model();
    private final int seed;
    private final int profile;
    private final int[] heart = new int[720];
    private int calls;
    private int made;

    private ModelTest(int seed) {
        this.seed = seed;
        random = new Random(seed);
        profile = seed % 6;
        heart[0] = 12 * up(8) + up(12);
        for (int t = 1; t < 720; t++) {
            int x = Math.min(11, Math.max(0, heart[t - 1] % 12 + up(3) - 1));
            int y = Math.min(7, Math.max(0, heart[t - 1] / 12 + up(3) - 1));
            heart[t] = 12 * y + x;
        }
    }

    /** In most runs what is told agrees with one path, or MAYBE would soon be empty for good. */
    private int cellNear(int t, int far) {
        if (profile == 3 || up(60) == 0 || t < 0 || t > 719) return cell();
        int x = heart[t] % 12 + up(2 * far + 1) - far;
        int y = heart[t] / 12 + up(2 * far + 1) - far;
        return x < 0 || x > 11 || y < 0 || y > 7 ? heart[t] : 12 * y + x;
    }

    public static void main(String[] args) {
        int runs = args.length > 0 ? Integer.parseInt(args[0]) : 48;
        int first = args.length > 1 ? Integer.parseInt(args[1]) : 0;
        for (int seed = first; seed < first + runs && Due.wrong() < 20; seed++) new ModelTest(seed).run();
        Due.finish();
    }

    private void run() {
        int settled = up(100);
        for (int i = 0; i < settled; i++) settle();
        // Behind 512 calls an object may answer anything; new RULES take some 50.
        for (int i = 0; i < 300 && made < 450; i++) oneOfAll();
    }

    private int up(int bound) {
        return random.nextInt(bound);
    }

    /** Mostly from a to b, at times just beyond or far off. */
    private int from(int a, int b) {
        int luck = up(60);
        if (luck == 0) return a - 1;
        if (luck == 1) return b + 1;
        if (luck == 2) return up(2) == 0 ? Integer.MIN_VALUE : Integer.MAX_VALUE;
        if (luck < 6) return a;
        if (luck < 9) return b;
        return b < a ? a : a + up(b - a + 1);
    }

    private int cell() {
        if (profile < 3 && up(4) > 0) return 12 * up(4) + up(5);
        return from(0, 95);
    }

    private int county() {
        return profile == 1 ? from(0, 3) : from(0, 7);
    }

    private int past() {
        if (up(3) > 0) return Math.max(0, model.now - up(12));
        return from(0, model.now);
    }

    private void due(String call, long got, long want) {
        made++;
        Due.due("run " + seed + " call " + calls + ": " + call, got, want);
    }

    private void due(String call, boolean got, boolean want) {
        due(call, got ? 1 : 0, want ? 1 : 0);
    }

    private static String call(String name, Object... args) {
        StringBuilder text = new StringBuilder(name).append("(");
        for (int i = 0; i < args.length; i++) text.append(i == 0 ? "" : ", ").append(args[i]);
        return text.append(")").toString();
    }

    private void oneOfAll() {
        calls++;
        switch (up(10)) {
            case 0: case 1: shape(); break;
            case 2: case 3: tell(); break;
            case 4: askHeart(); break;
            case 5: askPaths(); break;
            case 6: ruleThings(); break;
            case 7: case 8: warnThings(); break;
            default: truthThings(); break;
        }
    }

    private void settle() {
        int c = cell(), a = county(), b = up(3) == 0 ? 0 : from(0, 999), d = from(0, up(2) == 0 ? 30 : 4);
        due(call("land", c, a, b, d), office.land(c, a, b, d), model.land(c, a, b, d));
    }

    private void shape() {
        int c = cell(), a, b, d;
        boolean is = up(3) > 0;
        switch (up(9)) {
            case 0: case 1: case 2:
                settle();
                break;
            case 3:
                due(call("siren", c, is), office.siren(c, is), model.siren(c, is));
                break;
            case 4:
                if (up(3) > 0) return;
                a = profile == 3 ? from(1, 511) : up(2) == 0 ? 511 : 511 & ~(1 << up(9)); b = up(3) > 0 ? from(0, 6) : past();
                if (up(20) == 0) b = from(0, 719);
                due(call("storm", a, b), office.storm(a, b), model.storm(a, b));
                break;
            case 5:
                a = from(0, 2); b = from(0, up(2) == 0 ? 11 : 3); d = from(0, 3);
                due(call("radar", a, c, b, d), office.radar(a, c, b, d), model.radar(a, c, b, d));
                break;
            case 6:
                a = from(0, 2);
                due(call("blind", a, c, is), office.blind(a, c, is), model.blind(a, c, is));
                break;
            case 7:
                a = from(0, 7); b = from(0, 5);
                due(call("post", a, c, b), office.post(a, c, b), model.post(a, c, b));
                break;
            default:
                a = from(0, 4);
                due(call("of", c, a), office.of(c, a), model.of(c, a));
                break;
        }
    }

    private void tell() {
        int t = past(), c, a;
        int doors = profile == 4 ? 4 : 1;
        for (int i = 0; i < doors; i++) {
            switch (up(4)) {
                case 0:
                    a = from(0, 2);
                    c = cellNear(t, a >= 0 && a <= 2 && model.radars[a] != null ? model.radars[a][2] : 0);
                    due(call("seen", a, t, c), office.seen(a, t, c), model.seen(a, t, c));
                    break;
                case 1:
                    if (profile < 3 && up(3) > 0) return;
                    a = from(0, 2);
                    due(call("bare", a, t), office.bare(a, t), model.bare(a, t));
                    break;
                default:
                    a = up(3) == 0 ? -1 : from(profile == 4 ? 5 : 2, 5);
                    c = a < 0 || a > 5 ? cell() : cellNear(t, a);
                    due(call("word", t, c, a), office.word(t, c, a), model.word(t, c, a));
                    break;
            }
        }
    }

    private void askHeart() {
        int t = up(30) == 0 ? from(0, 719) : up(2) == 0 ? past() : Math.min(719, model.now + up(5));
        int k = past(), c = cell(), a;
        switch (up(4)) {
            case 0:
                due(call("maybe", t, k, c), office.maybe(t, k, c), model.maybe(t, k, c));
                break;
            case 1:
                due(call("quarrel", k), office.quarrel(k), model.quarrel(k));
                break;
            default:
                a = up(3) > 0 ? from(0, 1) : from(10, 105);
                due(call("count", t, k, a), office.count(t, k, a), model.count(t, k, a));
                break;
        }
    }

    private void askPaths() {
        int n = up(3) > 0 ? from(1, 3) : from(1, 12);
        int a, b;
        switch (up(4)) {
            case 0:
                due(call("paths", n), office.paths(n), model.paths(n));
                break;
            case 1:
                a = from(0, 255);
                due(call("missed", n, a), office.missed(n, a), model.missed(n, a));
                break;
            case 2:
                if (up(3) > 0) return;
                a = up(2) == 0 ? from(0, 1000) : from(0, 100);
                b = from(0, 1);
                due(call("box", n, a, b), office.box(n, a, b), model.box(n, a, b));
                break;
            default:
                a = from(0, Math.max(0, model.posts.size())); b = from(0, 2);
                due(call("posts", a, b), office.posts(a, b), model.posts(a, b));
                break;
        }
    }

    private void ruleThings() {
        int a = county(), b;
        boolean is = up(4) > 0;
        switch (up(6)) {
            case 0: case 1:
                newRules();
                break;
            case 2:
                made++;
                office.on(is);
                model.on(is);
                break;
            case 3:
                b = from(-3, model.tape.length());
                due(call("end", b), office.end(b), model.end(b));
                break;
            default:
                b = from(0, 9);
                due(call("asks", a, b), office.asks(a, b), model.asks(a, b));
                break;
        }
    }

    private void newRules() {
        String text = text();
        for (int i = 0; i < text.length(); i += 20) {
            int[] w = new int[5];
            for (int j = 0; j < 20; j++) {
                int sign = i + j < text.length() ? text.charAt(i + j) : ' ';
                w[j / 4] |= sign << 8 * (3 - j % 4);
            }
            due("feed of " + text, office.feed(w[0], w[1], w[2], w[3], w[4]), model.feed(w));
        }
        if (up(12) == 0) return;
        if (up(2) == 0) {
            int n = model.tape.length() - (20 - text.length() % 20) % 20;
            due(call("end", n), office.end(n), model.end(n));
        }
        String told = model.tape.toString();
        due("rules() of " + told, office.rules(), model.rules());
        for (int what = -1; what <= 2; what++) {
            due(call("fault", what) + " of " + told, office.fault(what), model.fault(what));
        }
    }

    private String text() {
        StringBuilder text = new StringBuilder();
        int lines = up(20) == 0 ? 14 + up(5) : up(4);
        for (int i = 0; i < lines; i++) text.append(line(lines > 10));
        int strays = up(3) == 0 ? 1 + up(2) : 0;
        for (int i = 0; i < strays; i++) {
            int at = up(text.length() + 1);
            if (up(3) == 0 && at < text.length()) text.deleteCharAt(at);
            else text.insert(at, STRAY[up(STRAY.length)]);
        }
        return text.length() > 760 ? text.substring(0, 760) : text.toString();
    }

    private String line(boolean brief) {
        String when = brief ? "1=" + up(2) : any(up(12) == 0 ? 10 : 3);
        switch (up(4)) {
            case 0: return "lift when " + when + ";";
            case 1: return "wait when " + when + " ;\n";
            default: return "warn " + (brief ? "5" : sum()) + " when " + when + ";";
        }
    }

    private String any(int deep) {
        StringBuilder text = new StringBuilder(condition(deep));
        while (up(3) == 0) text.append(up(2) == 0 ? " or " : " and ").append(condition(deep));
        return text.toString();
    }

    private String condition(int deep) {
        int luck = up(10);
        if (deep > 0 && (luck < 2 || deep > 5)) return "not " + condition(deep - 1);
        if (deep > 0 && luck < 5) return "(" + any(deep - 1) + ")";
        return sum() + "<=>".charAt(up(3)) + sum();
    }

    private String sum() {
        StringBuilder text = new StringBuilder(product());
        while (up(4) == 0) text.append(up(2) == 0 ? "+" : " - ").append(product());
        return text.toString();
    }

    private String product() {
        StringBuilder text = new StringBuilder(unit());
        while (up(4) == 0) text.append(up(2) == 0 ? "*" + unit() : "/ " + up(40));
        return text.toString();
    }

    private String unit() {
        if (up(2) == 0) return UNITS[up(UNITS.length)];
        return String.valueOf(up(3) == 0 ? up(10000) : up(30));
    }

    private void warnThings() {
        int a = county(), b;
        switch (up(7)) {
            case 0:
                b = from(1, up(2) == 0 ? 60 : 8);
                due(call("warn", a, b), office.warn(a, b), model.warn(a, b));
                break;
            case 1:
                due(call("lift", a), office.lift(a), model.lift(a));
                break;
            case 2: case 3:
                b = profile == 5 ? from(1, 60) : from(1, 4);
                if (model.on && b > 4 && b <= 60) b = 4;
                due(call("minutes", b), office.minutes(b), model.minutes(b));
                break;
            case 4:
                b = from(0, 5);
                due(call("look", b), office.look(b), model.look(b));
                break;
            default:
                a = from(0, Math.max(0, model.warnings.size() - 1)); b = from(0, 4);
                due(call("warning", a, b), office.warning(a, b), model.warning(a, b));
                break;
        }
    }

    private void truthThings() {
        int t = past(), c = cell(), a, b;
        switch (up(6)) {
            case 0: case 1:
                c = up(8) == 0 ? -1 : up(3) == 0 ? cell() : cellNear(t, 0);
                due(call("truth", t, c), office.truth(t, c), model.truth(t, c));
                break;
            case 2:
                for (int i = 0; i < 8; i++, c = cell(), t = past()) {
                    due(call("safe", t, c), office.safe(t, c), model.safe(t, c));
                }
                break;
            case 3:
                a = past(); b = past();
                due(call("found", a, b), office.found(a, b), model.found(a, b));
                break;
            case 4:
                if (up(3) > 0) return;
                due("judge()", office.judge(), model.judge());
                break;
            default:
                a = county(); b = from(0, 2);
                due(call("entries", a, b), office.entries(a, b), model.entries(a, b));
                break;
        }
    }
}
