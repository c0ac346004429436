/** The boundary cases of promises 8 to 13: TELLINGS, MAYBE, AFTER, QUARREL. */
public final class HeartEdgesTest {
    private static final int NOW = Edges.BUSY_NOW;
    /** All but one of the TELLINGS that there may be; at 7 one CELL is left of MAYBE. */
    private static final Edges.Story NEARLY_FULL = x -> {
        x.storm(16, 0);
        x.radar(1, 40, 1, 1);
        x.minutes(9);
        for (int i = 0; i < 100; i++) x.seen(1, 5, 53);
        for (int i = 0; i < 100; i++) x.bare(1, 6);
        for (int i = 0; i < 99; i++) x.word(7, 66, 0);
    };
    private static final Edges.Story FULL = x -> {
        NEARLY_FULL.on(x);
        x.word(8, 0, -1);
    };

    public static void main(String[] args) {
        seen();
        bare();
        word();
        threeHundred();
        off();
        bareAsAsked();
        doubt();
        maybe();
        known();
        startsTellings();
        count();
        after();
        afterIsKnown();
        quarrel();
        Due.finish();
    }

    private static void seen() {
        Edges.words(8, "SEEN: true; false, and nothing is done, if one can't be");
        Edges.bounds("RADARS 0 .. 2", 0, 2, Edges.BUSY, (x, v) -> Edges.is(x.seen(v, 20, 44)), 0, 1);
        Edges.bounds("a MINUTE up to NOW", 0, NOW, Edges.BUSY, (x, v) -> Edges.is(x.seen(0, v, 44)), 0, 1);
        Edges.bounds("CELL 0 .. 95", 0, 95, Edges.BUSY, (x, v) -> Edges.is(x.seen(0, 20, v)), 0, 1);
        for (int there = 0; there <= 2; there++) {
            int r = there;
            for (int other = 0; other <= 2; other++) {
                int told = other;
                if (told == r) continue;
                Edges.refused("RADAR " + told + ", only " + r + " is there", x -> x.radar(r, 5, 1, 1),
                        x -> Edges.is(x.seen(told, 0, 5)), 0);
            }
        }
        StormOffice x = new StormOffice();
        x.radar(0, 0, 0, 0);
        x.blind(0, 0, true);
        Edges.due("a CELL that it does not SEE can be told", x.seen(0, 0, 95), true);
        Edges.due("a CELL for which it is BLIND can be told", x.seen(0, 0, 0), true);
        Edges.due("both are TELLINGS", x.look(1), 2);
        Edges.due("the same twice", x.seen(0, 0, 0), true);
        Edges.due("is told twice", x.look(1), 3);
    }

    private static void bare() {
        Edges.words(9, "BARE: likewise");
        Edges.bounds("RADARS 0 .. 2", 0, 2, Edges.BUSY, (x, v) -> Edges.is(x.bare(v, 20)), 0, 1);
        Edges.bounds("a MINUTE up to NOW", 0, NOW, Edges.BUSY, (x, v) -> Edges.is(x.bare(0, v)), 0, 1);
        for (int there = 0; there <= 2; there++) {
            int r = there;
            for (int other = 0; other <= 2; other++) {
                int told = other;
                if (told == r) continue;
                Edges.refused("RADAR " + told + ", only " + r + " is there", x -> x.radar(r, 5, 1, 1),
                        x -> Edges.is(x.bare(told, 0)), 0);
            }
        }
    }

    private static void word() {
        Edges.words(10, "A WORD: likewise");
        Edges.bounds("a MINUTE up to NOW", 0, NOW, Edges.BUSY, (x, v) -> Edges.is(x.word(v, 44, 3)), 0, 1);
        Edges.bounds("a MINUTE up to NOW, unsure", 0, NOW, Edges.BUSY, (x, v) -> Edges.is(x.word(v, 44, -1)), 0, 1);
        Edges.bounds("CELL 0 .. 95", 0, 95, Edges.BUSY, (x, v) -> Edges.is(x.word(20, v, 3)), 0, 1);
        Edges.bounds("CELL 0 .. 95, unsure", 0, 95, Edges.BUSY, (x, v) -> Edges.is(x.word(20, v, -1)), 0, 1);
        Edges.bounds("DOUBT 0 .. 5, -1 an unsure one", -1, 5, Edges.BUSY, (x, v) -> Edges.is(x.word(20, 44, v)), 0, 1);
    }

    private static void threeHundred() {
        Edges.words(8, "false, and nothing is done, if there are 300 TELLINGS");
        StormOffice x = Edges.after(NEARLY_FULL);
        Edges.due("299 are told", x.look(1), 299);
        Edges.due("at 7 one CELL is left", x.count(7, 9, 0), 1);
        Edges.due("the 300th", x.seen(1, 5, 53), true);
        Edges.due("300 are told", x.look(1), 300);
        Edges.due("the 301st", x.seen(1, 5, 53), false);
        Edges.due("300 are still told", x.look(1), 300);
        Edges.refused("the 301st", FULL, y -> Edges.is(y.seen(1, 9, 0)), 0);
        Edges.words(9, "likewise, 300 TELLINGS");
        StormOffice z = Edges.after(NEARLY_FULL);
        Edges.due("the 300th", z.bare(1, 5), true);
        Edges.due("the 301st", z.bare(1, 5), false);
        Edges.refused("the 301st", FULL, y -> Edges.is(y.bare(1, 9)), 0);
        Edges.words(10, "likewise, 300 TELLINGS");
        StormOffice w = Edges.after(NEARLY_FULL);
        Edges.due("the 300th", w.word(9, 0, 5), true);
        Edges.due("the 300th holds", w.count(9, 9, 0), 0);
        Edges.due("the 301st", w.word(9, 0, 5), false);
        Edges.due("the 301st, unsure", w.word(9, 0, -1), false);
        Edges.refused("the 301st", FULL, y -> Edges.is(y.word(9, 0, 0)), 0);
        Edges.refused("the 301st, unsure", FULL, y -> Edges.is(y.word(9, 0, -1)), 0);
    }

    private static void off() {
        Edges.words(8, "it is no farther from it than OFF");
        int[] cells = {1, 9, 25, 49};
        for (int off = 0; off <= 3; off++) {
            StormOffice x = new StormOffice();
            x.radar(0, 0, 0, off);
            x.seen(0, 0, 53);
            Edges.due("OFF " + off, x.count(0, 0, 0), cells[off]);
            Edges.due("just so far in x, OFF " + off, x.maybe(0, 0, 53 - off), 1);
            Edges.due("one farther in x, OFF " + off, x.maybe(0, 0, 53 - off - 1), 0);
            Edges.due("just so far in y, OFF " + off, x.maybe(0, 0, 53 + 12 * off), 1);
            Edges.due("one farther in y, OFF " + off, x.maybe(0, 0, 53 - 12 * (off + 1)), 0);
            Edges.due("just so far in both, OFF " + off, x.maybe(0, 0, 53 - 13 * off), 1);
            StormOffice y = new StormOffice();
            y.radar(0, 0, 0, off);
            y.seen(0, 0, 11);
            Edges.due("at the land's corner, OFF " + off, y.count(0, 0, 0), (off + 1) * (off + 1));
            Edges.due("not around the row's end, OFF " + off, y.maybe(0, 0, 12), 0);
        }
        Edges.words(8, "two TELLINGS of one MINUTE");
        StormOffice z = new StormOffice();
        z.radar(0, 0, 0, 1);
        z.radar(1, 0, 0, 2);
        z.seen(0, 0, 50);
        z.seen(1, 0, 53);
        Edges.due("x 1 .. 3 and x 3 .. 7 have x 3, y 3 .. 5", z.count(0, 0, 0), 3);
        z.seen(1, 0, 54);
        Edges.due("x 4 .. 8 is beyond", z.count(0, 0, 0), 0);
    }

    private static void bareAsAsked() {
        Edges.words(9, "it is in no CELL that it SEES (as told when it is asked)");
        StormOffice x = new StormOffice();
        x.radar(0, 53, 0, 0);
        x.bare(0, 0);
        Edges.due("RANGE 0", x.count(0, 0, 0), 95);
        Edges.due("RANGE 0, where it stands", x.maybe(0, 0, 53), 0);
        x.radar(0, 53, 2, 0);
        Edges.due("RANGE 2, told later", x.count(0, 0, 0), 71);
        Edges.due("two far", x.maybe(0, 0, 55), 0);
        Edges.due("three far", x.maybe(0, 0, 56), 1);
        x.blind(0, 55, true);
        Edges.due("BLIND, told later", x.maybe(0, 0, 55), 1);
        Edges.due("BLIND, told later", x.count(0, 0, 0), 72);
        x.blind(0, 55, false);
        Edges.due("not BLIND, told later", x.count(0, 0, 0), 71);
        x.radar(0, 0, 11, 0);
        Edges.due("it SEES all", x.count(0, 0, 0), 0);
        Edges.due("a QUARREL then", x.quarrel(0), 0);
        x.blind(0, 95, true);
        Edges.due("all but one", x.count(0, 0, 0), 1);
        Edges.due("all but one", x.maybe(0, 0, 95), 1);
        x.radar(1, 95, 11, 0);
        Edges.due("another RADAR has told nothing", x.count(0, 0, 0), 1);
    }

    private static void doubt() {
        Edges.words(10, "a CELL and a DOUBT: the heart is no farther from it than that");
        int[] rows = {1, 3, 5, 7, 8, 8};
        for (int doubt = 0; doubt <= 5; doubt++) {
            StormOffice x = new StormOffice();
            x.word(0, 53, doubt);
            Edges.due("DOUBT " + doubt, x.count(0, 0, 0), (2 * doubt + 1) * rows[doubt]);
            Edges.due("just so far, DOUBT " + doubt, x.maybe(0, 0, 53 + doubt), 1);
            Edges.due("one farther, DOUBT " + doubt, x.maybe(0, 0, 53 + doubt + 1), 0);
            Edges.due("just so far to the other side, DOUBT " + doubt, x.maybe(0, 0, 53 - doubt), 1);
            StormOffice y = new StormOffice();
            y.word(0, 84, doubt);
            Edges.due("at the land's corner, DOUBT " + doubt, y.count(0, 0, 0), (doubt + 1) * (doubt + 1));
            Edges.due("not around the row's end, DOUBT " + doubt, y.maybe(0, 0, 83), 0);
        }
        Edges.words(10, "unsure ones, by which nothing is so");
        StormOffice x = new StormOffice();
        x.word(0, 53, -1);
        Edges.due("all CELLS", x.count(0, 0, 0), 96);
        Edges.due("it is a TELLING", x.look(1), 1);
        Edges.due("no QUARREL", x.quarrel(0), -1);
    }

    private static void maybe() {
        Edges.words(11, "CELL c at MINUTE t (0 .. 719), as known at k (0 .. NOW): NONE if one can't be");
        Edges.Story all = x -> x.minutes(NOW);
        Edges.bounds("t 0 .. 719", 0, 719, all, (x, v) -> x.maybe(v, NOW, 44), -1, 1);
        Edges.bounds("k 0 .. NOW", 0, NOW, all, (x, v) -> x.maybe(20, v, 44), -1, 1);
        Edges.bounds("CELL 0 .. 95", 0, 95, all, (x, v) -> x.maybe(20, NOW, v), -1, 1);
        Edges.beyond("t 0 .. 719", 0, 719, Edges.BUSY, (x, v) -> x.maybe(v, NOW, 44), -1);
        Edges.beyond("k 0 .. NOW", 0, NOW, Edges.BUSY, (x, v) -> x.maybe(20, v, 44), -1);
        Edges.beyond("CELL 0 .. 95", 0, 95, Edges.BUSY, (x, v) -> x.maybe(20, NOW, v), -1);
        StormOffice x = new StormOffice();
        Edges.due("k is 0 alone at MINUTE 0", x.maybe(0, 1, 0), -1);
        x.minutes(1);
        Edges.due("k is 1 at MINUTE 1", x.maybe(0, 1, 0), 1);
        Edges.until(x, 719);
        Edges.due("k is 719 at the last MINUTE", x.maybe(719, 719, 0), 1);
        Edges.due("k is never 720", x.maybe(719, 720, 0), -1);
    }

    private static void known() {
        Edges.words(11, "AS KNOWN at a MINUTE k: those told by then");
        StormOffice x = new StormOffice();
        x.storm(16, 0);
        x.minutes(5);
        x.word(3, 50, 0);
        x.minutes(2);
        Edges.due("at 4, told at 5", x.count(3, 4, 0), 96);
        Edges.due("at 5, told at 5", x.count(3, 5, 0), 1);
        Edges.due("at 6, told at 5", x.count(3, 6, 0), 1);
        Edges.due("of 3 alone: the MINUTE ahead", x.count(2, 7, 0), 96);
        Edges.due("of 3: the MINUTE behind", x.count(4, 7, 0), 1);
        Edges.due("of 3, at 4: the last MINUTE", x.count(719, 4, 0), 96);
        Edges.due("of 3, at 5: the last MINUTE", x.count(719, 5, 0), 1);
        x.word(7, 95, 0);
        Edges.due("told NOW, known NOW", x.count(7, 7, 0), 0);
        Edges.due("told NOW, not known at the MINUTE ahead", x.count(7, 6, 0), 1);
        x.word(0, 50, 0);
        Edges.due("told at last of the first MINUTE", x.count(0, 7, 0), 1);
        Edges.due("not known then", x.count(0, 6, 0), 96);
    }

    private static void startsTellings() {
        Edges.words(11, "at each MINUTE, THE START's too, those that all TELLINGS of it allow; ahead of THE START none");
        StormOffice x = new StormOffice();
        x.minutes(9);
        x.word(4, 50, 0);
        x.word(5, 51, 1);
        x.storm(16, 5);
        Edges.due("of THE START", x.count(5, 9, 0), 9);
        Edges.due("ahead of THE START", x.count(4, 9, 0), 0);
        Edges.due("ahead of THE START, the CELL told", x.maybe(4, 9, 50), 0);
        x.storm(16, 4);
        Edges.due("from 4 on", x.count(4, 9, 0), 1);
        Edges.due("from 4 on", x.count(5, 9, 0), 1);
        x.storm(16, 6);
        Edges.due("both are ahead", x.count(6, 9, 0), 96);
        x.storm(32, 4);
        Edges.due("MOVE 5 goes to 51", x.maybe(5, 9, 51), 1);
        Edges.due("then to 52", x.maybe(6, 9, 52), 1);
        Edges.due("then to 59, the row's end", x.maybe(13, 9, 59), 1);
        Edges.due("then it is gone", x.count(14, 9, 0), 0);
    }

    private static void count() {
        Edges.words(12, "NONE if one can't be, or another what");
        Edges.Story all = x -> x.minutes(NOW);
        for (int what : new int[] {0, 1, 10, 105}) {
            int taken = what < 10 ? 96 : 1;
            Edges.bounds("t 0 .. 719, what " + what, 0, 719, all, (x, v) -> x.count(v, NOW, what), -1, taken);
            Edges.bounds("k 0 .. NOW, what " + what, 0, NOW, all, (x, v) -> x.count(20, v, what), -1, taken);
        }
        Edges.bounds("what 0 and 1", 0, 1, all, (x, v) -> x.count(20, NOW, v), -1, 96);
        Edges.bounds("what 10 + c", 10, 105, all, (x, v) -> x.count(20, NOW, v), -1, 1);
        Edges.beyond("what 0 and 1", 0, 1, Edges.BUSY, (x, v) -> x.count(20, NOW, v), -1);
        Edges.beyond("what 10 + c", 10, 105, Edges.BUSY, (x, v) -> x.count(20, NOW, v), -1);
        for (int c : new int[] {0, 47, 48, 95}) {
            StormOffice y = new StormOffice();
            y.word(0, c, 0);
            Edges.due("CELL " + c + " is AFTER", y.count(0, 0, 10 + c), 1);
            Edges.due("the CELL beside is not", y.count(0, 0, 10 + (c < 95 ? c + 1 : 94)), 0);
            Edges.due("one CELL", y.count(0, 0, 1), 1);
        }
    }

    private static void after() {
        Edges.words(12, "AFTER: up to the last MINUTE of which a SEEN, a BARE or a sure WORD is known");
        for (int sort = 0; sort < 4; sort++) {
            StormOffice x = new StormOffice();
            x.storm(32, 0);
            x.minutes(5);
            x.radar(0, 0, 11, 0);
            x.blind(0, 54, true);
            if (sort == 0) x.seen(0, 3, 54);
            if (sort == 1) x.bare(0, 3);
            if (sort == 2) x.word(3, 54, 0);
            if (sort == 3) x.word(3, 54, -1);
            // By MOVE 5 alone: what is at 54 (x 6) at MINUTE 3 was at 51 at MINUTE 0; 8 rows of 12, 11, 10 .. are MAYBE.
            String name = "sort " + sort;
            int[] maybes = sort == 3 ? new int[] {96, 88, 80, 72, 64} : new int[] {96, 88, 80, 1, 1};
            int[] afters = sort == 3 ? maybes : new int[] {1, 1, 1, 1, 1};
            for (int t = 0; t <= 4; t++) {
                Edges.due(name + ", MAYBE at " + t, x.count(t, 5, 0), maybes[t]);
                Edges.due(name + ", AFTER at " + t, x.count(t, 5, 1), afters[t]);
            }
            if (sort < 3) Edges.due(name + ", at the first MINUTE", x.count(0, 5, 10 + 51), 1);
            if (sort < 3) Edges.due(name + ", at the last MINUTE", x.count(3, 5, 10 + 54), 1);
            if (sort < 3) Edges.due(name + ", from that MINUTE on as MAYBE", x.count(4, 5, 10 + 55), 1);
            if (sort < 3) Edges.due(name + ", up to where it is gone", x.count(8, 5, 1), 1);
            Edges.due(name + ", gone", x.count(12, 5, 1), 0);
        }
        Edges.words(12, "AFTER: from that MINUTE on as MAYBE");
        StormOffice y = new StormOffice();
        y.storm(1 << 4 | 1 << 5, 0);
        y.minutes(6);
        y.word(2, 12, 0);
        // At the last MINUTE and behind it nothing that comes later counts: the row's first CELL, then two, then three.
        for (int t = 2; t <= 5; t++) Edges.due("at " + t, y.count(t, 6, 1), t - 1);
        Edges.due("ahead of it", y.count(1, 6, 1), 1);
        y.word(6, 12, -1);
        Edges.due("an unsure WORD of later makes no last MINUTE", y.count(5, 6, 1), 4);
        y.word(6, 12, 5);
        Edges.due("a sure one does: x 0 .. 3 can all go on", y.count(5, 6, 1), 4);
        y.word(6, 12, 1);
        Edges.due("a sure one does: x 0 and 1 alone", y.count(5, 6, 1), 2);
    }

    private static void afterIsKnown() {
        Edges.words(12, "AFTER: the last MINUTE of which one is known at k");
        StormOffice x = new StormOffice();
        x.storm(32, 0);
        x.minutes(4);
        x.word(2, 50, 5);
        x.minutes(1);
        x.word(4, 52, 0);
        Edges.due("at 3 none is known", x.count(0, 3, 1), 96);
        // x 0 .. 7 at MINUTE 2, y 0 .. 7, of which x 2 .. 7 are MAYBE then: x 0 .. 5 at MINUTE 0.
        Edges.due("at 4 the one of MINUTE 2", x.count(0, 4, 1), 48);
        Edges.due("at 5 the one of MINUTE 4", x.count(0, 5, 1), 1);
        Edges.due("at 5 the one of MINUTE 4", x.count(0, 5, 10 + 48), 1);
        Edges.words(12, "AFTER, ahead of THE START");
        x.storm(32, 3);
        Edges.due("none at 2", x.count(2, 5, 1), 0);
        Edges.due("at THE START", x.count(3, 5, 1), 1);
        Edges.due("at THE START", x.count(3, 5, 10 + 51), 1);
        x.storm(32, 5);
        Edges.due("the last MINUTE is ahead of THE START", x.count(4, 5, 1), 0);
        Edges.due("THE START is behind it", x.count(5, 5, 1), 96);
        Edges.due("far ahead of both", x.count(0, 5, 1), 0);
        Edges.words(12, "AFTER, where none can go on");
        StormOffice y = new StormOffice();
        y.storm(16, 0);
        y.minutes(2);
        y.word(1, 5, 0);
        y.word(2, 6, 0);
        Edges.due("MAYBE at 1", y.count(1, 2, 0), 1);
        Edges.due("none is AFTER at 1", y.count(1, 2, 1), 0);
        Edges.due("none is AFTER at 0", y.count(0, 2, 1), 0);
        Edges.due("none is AFTER at 2", y.count(2, 2, 1), 0);
        Edges.due("none is AFTER later", y.count(3, 2, 1), 0);
    }

    private static void quarrel() {
        Edges.words(13, "QUARREL; NONE if there is none, or one can't be");
        Edges.Story clash = x -> {
            x.storm(16, 2);
            x.minutes(6);
            x.word(4, 50, 0);
            x.word(5, 53, 2);
            x.minutes(1);
        };
        Edges.within("k 0 .. NOW", 0, 7, clash, (x, v) -> x.quarrel(v), (x, v) -> v < 6 ? -1 : 5);
        Edges.beyond("k 0 .. NOW", 0, 7, clash, (x, v) -> x.quarrel(v), -1);
        Edges.beyond("k 0 .. NOW", 0, NOW, Edges.BUSY, (x, v) -> x.quarrel(v), -1);
        Edges.words(13, "the first MINUTE from THE START on, up to k, at which MAYBE is empty");
        StormOffice x = new StormOffice();
        x.word(0, 0, 0);
        Edges.due("one CELL is left", x.quarrel(0), -1);
        x.word(0, 1, 0);
        Edges.due("at MINUTE 0", x.quarrel(0), 0);
        x.storm(16, 1);
        Edges.due("THE START is behind k", x.quarrel(0), -1);
        x.minutes(1);
        Edges.due("THE START is k", x.quarrel(1), -1);
        x.word(1, 0, 0);
        x.word(1, 2, 0);
        Edges.due("empty at THE START, which is k", x.quarrel(1), 1);
        x.storm(16, 0);
        Edges.due("the first of two", x.quarrel(1), 0);
        StormOffice y = new StormOffice();
        y.storm(1 << 5, 0);
        y.minutes(11);
        y.word(11, 11, 0);
        Edges.due("the last CELL is at the row's end", y.quarrel(11), -1);
        y.minutes(1);
        Edges.due("it is gone one MINUTE later", y.quarrel(12), 12);
        Edges.due("MAYBE is empty later than k", y.quarrel(11), -1);
        StormOffice z = new StormOffice();
        z.minutes(8);
        z.word(3, 0, 0);
        z.word(7, 5, 0);
        Edges.due("five far in four MINUTES", z.quarrel(8), 7);
        Edges.due("not known at 7", z.quarrel(7), -1);
        StormOffice w = new StormOffice();
        w.minutes(8);
        w.word(3, 0, 0);
        w.word(7, 4, 0);
        Edges.due("four far in four MINUTES", w.quarrel(8), -1);
        StormOffice last = new StormOffice();
        last.storm(16, 719);
        Edges.until(last, 719);
        Edges.due("at the last MINUTE none", last.quarrel(719), -1);
        last.word(719, 0, 0);
        last.word(719, 95, 5);
        Edges.due("at the last MINUTE", last.quarrel(719), 719);
    }
}
