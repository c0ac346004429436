/** The boundary cases of promises 21 and 22: RULES that are ON, and what is asked. */
public final class AsksEdgesTest {
    public static void main(String[] args) {
        on();
        asks();
        lastTenMinutes();
        tellACellOfIt();
        near();
        soon();
        soonAhead();
        left();
        hour();
        line();
        Due.finish();
    }

    private static void on() {
        Edges.words(21, "RULES are ON, or not");
        StormOffice x = new StormOffice();
        Due.rules(x, "warn 1 when 1=1;");
        x.minutes(1);
        Edges.due("not ON at first", x.look(2), 0);
        x.on(false);
        x.minutes(1);
        Edges.due("told not ON", x.look(2), 0);
        x.on(true);
        Edges.due("nothing is done before a MINUTE goes by", x.look(2), 0);
        x.minutes(1);
        Edges.due("ON", x.look(2), 8);
        x.on(true);
        x.minutes(1);
        Edges.due("ON again", x.look(2), 16);
        x.on(false);
        x.minutes(1);
        Edges.due("not ON any more", x.look(2), 16);
        x.on(true);
        x.rules();
        x.minutes(1);
        Edges.due("ON, with RULES that have no line", x.look(2), 16);
        Due.rules(x, "warn 1 when 1=1;");
        x.minutes(1);
        Edges.due("new RULES are ON as the old ones were", x.look(2), 24);
    }

    private static void asks() {
        Edges.words(22, "NONE - 1 if one can't be");
        for (int what = 0; what <= 9; what++) {
            int w = what;
            Edges.beyond("COUNTY 0 .. 7, what " + what, 0, 7, Edges.BUSY, (x, v) -> x.asks(v, w), -2);
        }
        int[] first = {0, 0, 0, 96, 0, 0, 0, 100, 0, -1};
        int[] bare = {0, 0, 0, 0, 99, 0, 0, 100, 0, -1};
        for (int what = 0; what <= 9; what++) {
            int w = what;
            Edges.within("COUNTY 0 .. 7, what " + what, 0, 7, Edges.NEW, (x, v) -> x.asks(v, w), (x, v) -> v == 0 ? first[w] : bare[w]);
        }
        Edges.beyond("what 0 .. 9", 0, 9, Edges.BUSY, (x, v) -> x.asks(3, v), -2);
        Edges.beyond("what 0 .. 9", 0, 9, Edges.NEW, (x, v) -> x.asks(0, v), -2);
    }

    private static void lastTenMinutes() {
        Edges.words(22, "seen, words, doubtful: of the last 10 MINUTES (this one too)");
        for (int now : new int[] {0, 5, 8, 9, 10, 11, 30, 719}) {
            for (int t : new int[] {0, now - 11, now - 10, now - 9, now - 8, now - 1, now}) {
                if (t < 0 || t > now) continue;
                StormOffice x = new StormOffice();
                x.radar(0, 0, 0, 3);
                Edges.until(x, now);
                x.seen(0, t, 5);
                x.word(t, 5, 5);
                x.word(t, 5, 5);
                for (int i = 0; i < 3; i++) x.word(t, 5, -1);
                boolean counts = now - t <= 9;
                for (int what = 0; what < 3; what++) {
                    Edges.due("what " + what + " of " + t + " at " + now, x.asks(0, what), counts ? what + 1 : 0);
                }
            }
        }
        StormOffice x = new StormOffice();
        x.radar(0, 0, 0, 3);
        x.seen(0, 0, 5);
        x.word(0, 5, 5);
        x.word(0, 5, -1);
        x.minutes(9);
        for (int what = 0; what < 3; what++) Edges.due("told nine MINUTES ago, what " + what, x.asks(0, what), 1);
        x.minutes(1);
        for (int what = 0; what < 3; what++) Edges.due("told ten MINUTES ago, what " + what, x.asks(0, what), 0);
        x.word(0, 5, 5);
        Edges.due("told NOW, of ten MINUTES ago", x.asks(0, 1), 0);
        x.word(1, 5, 5);
        Edges.due("told NOW, of nine MINUTES ago", x.asks(0, 1), 1);
    }

    private static void tellACellOfIt() {
        Edges.words(22, "how many SEEN, sure, unsure WORDS tell a CELL of it");
        StormOffice x = new StormOffice();
        x.land(6, 7, 0, 0);
        x.radar(0, 6, 11, 3);
        x.seen(0, 0, 6);
        x.seen(0, 0, 5);
        x.bare(0, 0);
        x.word(0, 6, 0);
        x.word(0, 6, 5);
        x.word(0, 7, 0);
        x.word(0, 6, -1);
        Edges.due("seen in 7", x.asks(7, 0), 1);
        Edges.due("seen in 0", x.asks(0, 0), 1);
        Edges.due("a BARE is none of them", x.asks(0, 0) + x.asks(0, 1) + x.asks(0, 2), 2);
        Edges.due("words in 7, DOUBT 0 and 5", x.asks(7, 1), 2);
        Edges.due("words in 0", x.asks(0, 1), 1);
        Edges.due("doubtful in 7", x.asks(7, 2), 1);
        Edges.due("doubtful in 0", x.asks(0, 2), 0);
        x.land(6, 3, 0, 0);
        Edges.due("its COUNTY is the one told last", x.asks(3, 1), 2);
        Edges.due("no more the one told first", x.asks(7, 1), 0);
    }

    private static void near() {
        Edges.words(22, "near: how many of its CELLS are MAYBE NOW");
        StormOffice x = new StormOffice();
        Edges.due("all CELLS", x.asks(0, 3), 96);
        x.land(5, 1, 0, 0);
        x.land(6, 1, 0, 0);
        Edges.due("all but two", x.asks(0, 3), 94);
        Edges.due("two", x.asks(1, 3), 2);
        x.word(0, 5, 0);
        Edges.due("one of two", x.asks(1, 3), 1);
        Edges.due("none", x.asks(0, 3), 0);
        x.minutes(1);
        Edges.due("NOW is one more: both", x.asks(1, 3), 2);
        Edges.due("NOW is one more: x 4 .. 6, y 0 and 1, less two", x.asks(0, 3), 4);
        x.storm(511, 2);
        Edges.due("ahead of THE START", x.asks(0, 3), 0);
    }

    private static void soon() {
        Edges.words(22, "soon: the fewest MINUTES (0 .. 12) in which the heart may come to one of its CELLS, 99 if none");
        for (int far = 0; far <= 13; far++) {
            StormOffice x = new StormOffice();
            // MOVE 5 and MOVE 7: as many MINUTES as x and y are off in all.
            x.storm(1 << 5 | 1 << 7, 0);
            x.word(0, 0, 0);
            x.land(far <= 7 ? 12 * far : 12 * 7 + far - 7, 6, 0, 0);
            Edges.due(far + " MINUTES off", x.asks(6, 4), far <= 12 ? far : 99);
            Edges.due("no CELL is in COUNTY 5", x.asks(5, 4), 99);
        }
        for (int far = 0; far <= 11; far++) {
            StormOffice x = new StormOffice();
            x.word(0, 0, 0);
            x.land(far, 6, 0, 0);
            Edges.due("by all MOVES, " + far + " off", x.asks(6, 4), far);
        }
        StormOffice x = new StormOffice();
        x.word(0, 0, 0);
        x.land(5, 1, 0, 0);
        x.land(3, 1, 0, 0);
        x.land(9, 1, 0, 0);
        Edges.due("the nearest of three", x.asks(1, 4), 3);
        x.storm(1 << 3, 0);
        Edges.due("gone at once", x.asks(1, 4), 99);
        Edges.due("it may be in COUNTY 0 NOW", x.asks(0, 4), 0);
        x.storm(16, 0);
        Edges.due("it stays", x.asks(1, 4), 99);
        StormOffice y = new StormOffice();
        y.storm(1 << 5, 0);
        Edges.until(y, 719);
        Edges.due("MAYBE NOW is empty", y.asks(0, 4), 99);
        StormOffice z = new StormOffice();
        z.storm(1 << 5, 719);
        Edges.until(z, 719);
        z.word(719, 0, 0);
        z.land(4, 1, 0, 0);
        Edges.due("beyond the last MINUTE", z.asks(1, 4), 4);
    }

    /** The heart comes from where it may be NOW, and ahead of THE START that is nowhere. */
    private static void soonAhead() {
        Edges.words(22, "soon, ahead of THE START");
        StormOffice x = new StormOffice();
        x.storm(511, 1);
        Edges.due("one MINUTE ahead", x.asks(0, 4), 99);
        x.minutes(1);
        Edges.due("at THE START", x.asks(0, 4), 0);
        x.land(0, 1, 0, 0);
        x.word(1, 3, 0);
        Edges.due("at THE START, told NOW", x.asks(1, 4), 3);
    }

    private static void left() {
        Edges.words(22, "left: MINUTES until its WARNING ends (0 without)");
        StormOffice x = new StormOffice();
        Edges.due("without", x.asks(3, 6), 0);
        x.warn(3, 60);
        Edges.due("60", x.asks(3, 6), 60);
        Edges.due("of another COUNTY", x.asks(2, 6), 0);
        x.minutes(59);
        Edges.due("its last MINUTE", x.asks(3, 6), 1);
        x.minutes(1);
        Edges.due("it has ended", x.asks(3, 6), 0);
        x.minutes(1);
        Edges.due("it has ended, later", x.asks(3, 6), 0);
        x.warn(3, 1);
        Edges.due("1", x.asks(3, 6), 1);
        x.warn(3, 2);
        Edges.due("made longer", x.asks(3, 6), 2);
        x.lift(3);
        Edges.due("lifted", x.asks(3, 6), 0);
        Edges.until(x, 719);
        x.warn(3, 60);
        Edges.due("beyond the last MINUTE", x.asks(3, 6), 60);
    }

    private static void hour() {
        Edges.words(22, "hour: NOW by 60");
        StormOffice x = new StormOffice();
        for (int hour = 0; hour <= 11; hour++) {
            Edges.until(x, 60 * hour);
            Edges.due("at " + 60 * hour, x.asks(7, 8), hour);
            Edges.until(x, 60 * hour + 59);
            Edges.due("at " + (60 * hour + 59), x.asks(7, 8), hour);
        }
    }

    private static void line() {
        Edges.words(22, "9 the line that is so (NONE)");
        StormOffice x = new StormOffice();
        Edges.due("no RULES", x.asks(0, 9), -1);
        String line = "wait when hour=";
        StringBuilder text = new StringBuilder();
        for (int i = 0; i < 12; i++) text.append(line).append(i).append(';');
        Due.rules(x, text.toString());
        for (int hour = 0; hour <= 11; hour++) {
            Edges.until(x, 60 * hour);
            Edges.due("line " + hour, x.asks(0, 9), hour);
        }
        Due.rules(x, "wait when 1=2;");
        Edges.due("none is so", x.asks(0, 9), -1);
        Due.rules(x, "wait when 1=2;wait when 1=1;wait when 1=1;");
        Edges.due("the first of two", x.asks(0, 9), 1);
        x.on(false);
        Edges.due("though RULES are not ON", x.asks(7, 9), 1);
        Edges.words(22, "each is asked by its KEYWORD as by its number");
        String[] names = {"seen", "words", "doubtful", "near", "soon", "people", "left", "ears", "hour"};
        for (int what = 0; what <= 8; what++) {
            for (int county = 0; county <= 7; county++) {
                StormOffice y = Edges.after(Edges.BUSY);
                int value = y.asks(county, what);
                y.end(0);
                Due.rules(y, "wait when " + names[what] + "<" + value + ";lift when " + names[what] + "=" + value + ";");
                Edges.due(names[what] + " of COUNTY " + county, y.asks(county, 9), 1);
            }
        }
    }
}
