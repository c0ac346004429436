/** The promises of the document, sentence by sentence: ordinary calls, and the bounds that the sentences name. */
final class Promises {
    private static final int NOW = Edges.BUSY_NOW;

    private Promises() { }

    static void test() {
        landAndStorm();
        tellings();
        heart();
        paths();
        tape();
        rules();
        minutes();
        warnings();
        truth();
        posts();
    }

    private static void landAndStorm() {
        Doc doc = Doc.promise(1);
        doc.says("Bare land, MINUTE 0, no RULES, not ON.");
        StormOffice x = new StormOffice();
        for (int c = 0; c < 96; c++) Edges.due("PEOPLE, SIREN, RADARS of CELL " + c, x.of(c, 1) + x.of(c, 3) + x.of(c, 4), 0);
        Edges.due("MINUTE", x.look(0), 0);
        Edges.due("no line", x.asks(0, 9), -1);
        Due.rules(x, "warn 1 when 1=1;");
        x.minutes(1);
        Edges.due("not ON", x.look(2), 0);
        doc.end();
        doc = Doc.promise(2);
        doc.says("CELL c is in a COUNTY, has PEOPLE, SHELTERS: true;");
        Edges.due("told", x.land(17, 3, 250, 4), true);
        int[] told = {3, 250, 4};
        for (int what = 0; what <= 2; what++) Edges.due("what " + what, x.of(17, what), told[what]);
        Edges.due("told anew", x.land(17, 5, 8, 0), true);
        Edges.due("the COUNTY it left", x.asks(3, 5), 0);
        Edges.due("the COUNTY it is in", x.asks(5, 5), 8);
        doc.says("false, and nothing is done, if one can't be.");
        Edges.bounds("CELL", 0, 95, Edges.BUSY, (y, v) -> Edges.is(y.land(v, 1, 2, 3)), 0, 1);
        Edges.bounds("COUNTY", 0, 7, Edges.BUSY, (y, v) -> Edges.is(y.land(9, v, 2, 3)), 0, 1);
        Edges.bounds("PEOPLE", 0, 999, Edges.BUSY, (y, v) -> Edges.is(y.land(9, 1, v, 3)), 0, 1);
        Edges.bounds("SHELTERS", 0, 30, Edges.BUSY, (y, v) -> Edges.is(y.land(9, 1, 2, v)), 0, 1);
        doc.end();
        doc = Doc.promise(3);
        doc.says("CELL c has a SIREN, or not: likewise (also if it was so).");
        for (boolean is : new boolean[] {false, true, true, false, false}) {
            Edges.due("told " + is, x.siren(17, is), true);
            Edges.due("it is " + is, x.of(17, 3), Edges.is(is));
        }
        Edges.bounds("CELL", 0, 95, Edges.BUSY, (y, v) -> Edges.is(y.siren(v, true)), 0, 1);
        doc.end();
        doc = Doc.promise(4);
        doc.says("MOVES and THE START: likewise.");
        StormOffice z = new StormOffice();
        Edges.due("MOVE 5, from 4 on", z.storm(1 << 5, 4), true);
        int[] maybes = {0, 0, 0, 0, 96, 88, 80};
        for (int t = 0; t <= 6; t++) Edges.due("at " + t, z.count(t, 0, 0), maybes[t]);
        Edges.bounds("MOVES", 1, 511, Edges.BUSY, (y, v) -> Edges.is(y.storm(v, 1)), 0, 1);
        Edges.bounds("THE START", 0, 719, Edges.BUSY, (y, v) -> Edges.is(y.storm(7, v)), 0, 1);
        doc.end();
        radars();
    }

    private static void radars() {
        Doc doc = Doc.promise(5);
        doc.says("RADAR r (in place of one; it is there from then on, nothing BLIND for it): likewise.");
        StormOffice x = new StormOffice();
        Edges.due("not there", x.bare(1, 0), false);
        Edges.due("told", x.radar(1, 53, 1, 0), true);
        Edges.due("there", x.bare(1, 0), true);
        x.blind(1, 53, true);
        Edges.due("BLIND", x.of(53, 4), 0);
        Edges.due("in place of it", x.radar(1, 54, 1, 2), true);
        Edges.due("nothing BLIND", x.of(53, 4), 2);
        Edges.due("the old one's CELLS", x.of(52, 4), 0);
        Edges.bounds("RADAR", 0, 2, Edges.BUSY, (y, v) -> Edges.is(y.radar(v, 9, 1, 1)), 0, 1);
        Edges.bounds("CELL", 0, 95, Edges.BUSY, (y, v) -> Edges.is(y.radar(1, v, 1, 1)), 0, 1);
        Edges.bounds("RANGE", 0, 11, Edges.BUSY, (y, v) -> Edges.is(y.radar(1, 9, v, 1)), 0, 1);
        Edges.bounds("OFF", 0, 3, Edges.BUSY, (y, v) -> Edges.is(y.radar(1, 9, 1, v)), 0, 1);
        doc.end();
        doc = Doc.promise(6);
        doc.says("CELL c is BLIND for RADAR r, or not: true;");
        Edges.due("BLIND", x.blind(1, 53, true), true);
        Edges.due("not seen", x.of(53, 4), 0);
        Edges.due("not BLIND", x.blind(1, 53, false), true);
        Edges.due("seen", x.of(53, 4), 2);
        doc.says("false, and nothing is done, if one can't be, or it was so.");
        Edges.bounds("RADAR", 0, 2, Edges.BUSY, (y, v) -> Edges.is(y.blind(v, 29, true)), 0, 1);
        Edges.bounds("CELL", 0, 95, y -> y.radar(0, 0, 11, 0), (y, v) -> Edges.is(y.blind(0, v, true)), 0, 1);
        Edges.refused("a RADAR that is not there", Edges.NEW, y -> Edges.is(y.blind(0, 0, true)), 0);
        Edges.refused("it was BLIND", Edges.BUSY, y -> Edges.is(y.blind(0, 41, true)), 0);
        Edges.refused("it was not BLIND", Edges.BUSY, y -> Edges.is(y.blind(0, 40, false)), 0);
        doc.end();
        doc = Doc.promise(7);
        doc.says("Of CELL c what 0 COUNTY, 1 PEOPLE, 2 SHELTERS, 3 1 if it has a SIREN, else 0, 4 RADARS that SEE it, as a set.");
        StormOffice z = new StormOffice();
        z.land(95, 6, 43, 21);
        z.siren(95, true);
        z.radar(0, 95, 0, 0);
        z.radar(2, 84, 11, 0);
        int[] due = {6, 43, 21, 1, 5};
        for (int what = 0; what <= 4; what++) Edges.due("what " + what, z.of(95, what), due[what]);
        Edges.due("no SIREN", z.of(94, 3), 0);
        Edges.due("one RADAR", z.of(94, 4), 4);
        doc.says("NONE if there is none such, or another what.");
        Edges.beyond("CELL", 0, 95, Edges.BUSY, (y, v) -> y.of(v, 0), -1);
        Edges.beyond("what", 0, 4, Edges.BUSY, (y, v) -> y.of(0, v), -1);
        doc.end();
    }

    private static void tellings() {
        Edges.Story full = x -> {
            x.radar(0, 0, 0, 0);
            for (int i = 0; i < 300; i++) x.word(0, i % 96, -1);
        };
        Doc doc = Doc.promise(8);
        doc.says("SEEN: true;");
        StormOffice x = new StormOffice();
        x.radar(1, 0, 0, 1);
        x.minutes(1);
        Edges.due("told", x.seen(1, 1, 53), true);
        Edges.due("counted", x.look(1), 1);
        Edges.due("one far", x.count(1, 1, 0), 9);
        doc.says("false, and nothing is done, if one can't be, or there are 300 TELLINGS.");
        Edges.bounds("RADAR", 0, 2, Edges.BUSY, (y, v) -> Edges.is(y.seen(v, 1, 9)), 0, 1);
        Edges.bounds("MINUTE", 0, NOW, Edges.BUSY, (y, v) -> Edges.is(y.seen(1, v, 9)), 0, 1);
        Edges.bounds("CELL", 0, 95, Edges.BUSY, (y, v) -> Edges.is(y.seen(1, 1, v)), 0, 1);
        Edges.refused("a RADAR that is not there", Edges.NEW, y -> Edges.is(y.seen(2, 0, 0)), 0);
        Edges.refused("300 TELLINGS", full, y -> Edges.is(y.seen(0, 0, 0)), 0);
        doc.end();
        doc = Doc.promise(9);
        doc.says("BARE: likewise.");
        x.radar(2, 53, 0, 0);
        Edges.due("told", x.bare(2, 1), true);
        Edges.due("counted", x.look(1), 2);
        Edges.due("all but the one that it SEES", x.count(1, 1, 0), 8);
        Edges.bounds("RADAR", 0, 2, Edges.BUSY, (y, v) -> Edges.is(y.bare(v, 1)), 0, 1);
        Edges.bounds("MINUTE", 0, NOW, Edges.BUSY, (y, v) -> Edges.is(y.bare(1, v)), 0, 1);
        Edges.refused("a RADAR that is not there", Edges.NEW, y -> Edges.is(y.bare(2, 0)), 0);
        Edges.refused("300 TELLINGS", full, y -> Edges.is(y.bare(0, 0)), 0);
        doc.end();
        doc = Doc.promise(10);
        doc.says("A WORD: likewise (DOUBT -1: an unsure one).");
        Edges.due("told", x.word(1, 41, 0), true);
        Edges.due("one of the eight", x.count(1, 1, 0), 1);
        Edges.due("an unsure one", x.word(1, 95, -1), true);
        Edges.due("nothing is so by it", x.count(1, 1, 0), 1);
        Edges.due("counted", x.look(1), 4);
        Edges.bounds("MINUTE", 0, NOW, Edges.BUSY, (y, v) -> Edges.is(y.word(v, 9, 1)), 0, 1);
        Edges.bounds("CELL", 0, 95, Edges.BUSY, (y, v) -> Edges.is(y.word(1, v, 1)), 0, 1);
        Edges.bounds("DOUBT", -1, 5, Edges.BUSY, (y, v) -> Edges.is(y.word(1, 9, v)), 0, 1);
        Edges.refused("300 TELLINGS", full, y -> Edges.is(y.word(0, 0, 0)), 0);
        Edges.refused("300 TELLINGS, unsure", full, y -> Edges.is(y.word(0, 0, -1)), 0);
        doc.end();
    }

    private static void heart() {
        // MOVE 5 alone from row 4, x 4 .. 6, told at MINUTE 2 of MINUTE 1; at 4 a WORD of MINUTE 3 leaves x 7.
        Edges.Story east = x -> {
            x.storm(1 << 5, 0);
            x.minutes(2);
            x.word(1, 53, 1);
            x.minutes(2);
            x.word(3, 55, 0);
        };
        StormOffice x = Edges.after(east);
        Doc doc = Doc.promise(11);
        doc.says("Whether CELL c is MAYBE at MINUTE t (0 .. 719), as known at k (0 .. NOW): 1, 0;");
        Edges.due("known at 1", x.maybe(1, 1, 60), 0);
        Edges.due("known at 1, x 1 .. 11", x.maybe(1, 1, 61), 1);
        Edges.due("known at 2", x.maybe(1, 2, 61), 0);
        Edges.due("known at 2", x.maybe(1, 2, 52), 1);
        Edges.due("known at 4", x.maybe(3, 4, 55), 1);
        Edges.due("known at 4", x.maybe(3, 4, 54), 0);
        Edges.due("known at 3", x.maybe(3, 3, 54), 1);
        Edges.due("at 719 it is gone", x.maybe(719, 4, 95), 0);
        doc.says("NONE if one can't be.");
        Edges.beyond("t", 0, 719, Edges.BUSY, (y, v) -> y.maybe(v, 0, 0), -1);
        Edges.beyond("k", 0, NOW, Edges.BUSY, (y, v) -> y.maybe(0, v, 0), -1);
        Edges.beyond("CELL", 0, 95, Edges.BUSY, (y, v) -> y.maybe(0, 0, v), -1);
        doc.end();
        doc = Doc.promise(12);
        doc.says("How many CELLS are MAYBE (what 0), AFTER (1), 10 + c 1 if CELL c is AFTER, else 0.");
        int[] maybes = {96, 9, 9, 1, 1, 1};
        int[] afters = {1, 1, 1, 1, 1, 1};
        for (int t = 0; t <= 5; t++) {
            Edges.due("MAYBE at " + t, x.count(t, 4, 0), maybes[t]);
            Edges.due("AFTER at " + t, x.count(t, 4, 1), afters[t]);
            Edges.due("the CELL at " + t, x.count(t, 4, 10 + 52 + t), 1);
            Edges.due("the CELL ahead of it at " + t, x.count(t, 4, 10 + 51 + t), 0);
        }
        Edges.due("AFTER, known at 2: nine came from nine", x.count(0, 2, 1), 9);
        doc.says("NONE if one can't be, or another what.");
        for (int what : new int[] {0, 1, 10, 105}) {
            Edges.beyond("t, what " + what, 0, 719, Edges.BUSY, (y, v) -> y.count(v, 0, what), -1);
            Edges.beyond("k, what " + what, 0, NOW, Edges.BUSY, (y, v) -> y.count(0, v, what), -1);
        }
        for (int what = -3; what <= 109; what++) {
            boolean is = what == 0 || what == 1 || what >= 10 && what <= 105;
            Edges.due("what " + what, x.count(0, 0, what) == -1, !is);
        }
        doc.end();
        doc = Doc.promise(13);
        doc.says("QUARREL;");
        x.word(2, 0, 5);
        x.word(4, 0, 0);
        Edges.due("at 2: x 5 .. 7 of rows 3 .. 5 has x 5", x.quarrel(4), 3);
        x.word(2, 0, 0);
        Edges.due("earlier", x.quarrel(4), 2);
        doc.says("NONE if there is none, or one can't be.");
        Edges.due("none as known at 3", x.quarrel(3), -1);
        Edges.due("none on a new object", new StormOffice().quarrel(0), -1);
        Edges.beyond("k", 0, NOW, Edges.BUSY, (y, v) -> y.quarrel(v), -1);
        doc.end();
    }

    private static void paths() {
        // Of row 0, x 0: MOVES 4 and 5. PEOPLE at x 1 (COUNTY 1), x 2 (COUNTY 2) and x 3 (COUNTY 3).
        StormOffice x = new StormOffice();
        x.storm(1 << 4 | 1 << 5, 0);
        x.word(0, 0, 0);
        x.land(1, 1, 30, 0);
        x.land(2, 2, 20, 0);
        x.land(3, 3, 10, 0);
        Doc doc = Doc.promise(14);
        doc.says("How many PATHS there are for n MINUTES;");
        for (int n = 1; n <= 11; n++) Edges.due("n " + n, x.paths(n), 1L << n);
        Edges.due("one would go beyond the land", x.paths(12), (1L << 12) - 1);
        doc.says("NONE if one can't be.");
        Edges.beyond("n", 1, 12, Edges.BUSY, (y, v) -> y.paths(v), -1);
        doc.end();
        doc = Doc.promise(15);
        doc.says("How many of them a BOX (0 .. 255) MISSES;");
        // Of 8 PATHS for 3 MINUTES one stays at x 0, 3 end at x 1, 3 at x 2, 1 at x 3.
        int[] boxes = {0, 2, 4, 6, 14, 10, 255};
        int[] missed = {7, 4, 7, 1, 0, 4, 0};
        for (int i = 0; i < boxes.length; i++) Edges.due("BOX " + boxes[i], x.missed(3, boxes[i]), missed[i]);
        doc.says("NONE likewise.");
        Edges.beyond("n", 1, 12, Edges.BUSY, (y, v) -> y.missed(v, 0), -1);
        Edges.beyond("BOX", 0, 255, Edges.BUSY, (y, v) -> y.missed(1, v), -1);
        doc.end();
        doc = Doc.promise(16);
        doc.says("BEST BOX (part 0 .. 1000): what 0 the set, 1 its PEOPLE.");
        int[] parts = {0, 124, 125, 499, 500, 874, 875, 1000};
        int[] sets = {14, 14, 6, 6, 2, 2, 0, 0};
        int[] people = {60, 60, 50, 50, 30, 30, 0, 0};
        for (int i = 0; i < parts.length; i++) {
            Edges.due("part " + parts[i], x.box(3, parts[i], 0), sets[i]);
            Edges.due("part " + parts[i] + ", its PEOPLE", x.box(3, parts[i], 1), people[i]);
        }
        doc.says("NONE if one can't be, or another what.");
        Edges.beyond("n", 1, 12, Edges.BUSY, (y, v) -> y.box(v, 0, 0), -1);
        Edges.beyond("part", 0, 1000, Edges.BUSY, (y, v) -> y.box(1, v, 0), -1);
        Edges.beyond("what", 0, 1, Edges.BUSY, (y, v) -> y.box(1, 0, v), -1);
        doc.end();
    }

    private static void tape() {
        Doc doc = Doc.promise(17);
        doc.says("Twenty bytes come behind the TAPE, of each number the highest first: how many it has.");
        StormOffice x = new StormOffice();
        // "lift when 1=2;wait w", then "hen 1=1;" and blanks.
        Edges.due("twenty", x.feed(0x6c696674, 0x20776865, 0x6e20313d, 0x323b7761, 0x69742077), 20);
        Edges.due("forty", x.feed(0x68656e20, 0x313d313b, 0x20202020, 0x20202020, 0x20202020), 40);
        Edges.due("two lines", x.rules(), 2);
        Edges.due("the second is so", x.asks(0, 9), 1);
        doc.says("NONE, and nothing comes, if there would be more than 800.");
        for (int has = 20; has <= 800; has += 20) Edges.due("to " + has, x.feed(0, 0, 0, 0, 0), has);
        Edges.due("820", x.feed(0, 0, 0, 0, 0), -1);
        Edges.due("800 still", x.end(800), true);
        Edges.due("no more", x.end(801), false);
        Edges.due("781", x.end(781), true);
        Edges.due("801", x.feed(0, 0, 0, 0, 0), -1);
        Edges.due("781 still", x.end(782), false);
        doc.end();
        doc = Doc.promise(18);
        doc.says("The TAPE has its first n bytes alone: true;");
        StormOffice y = new StormOffice();
        Due.tape(y, "wait when 1=1;lift when 1=1;");
        Edges.due("fourteen", y.end(14), true);
        Edges.due("one line", y.rules(), 1);
        Due.tape(y, "wait when 1=1;");
        Edges.due("none", y.end(0), true);
        Edges.due("no line", y.rules(), 0);
        doc.says("false, changing nothing, if it has not so many, or n is below 0.");
        Edges.bounds("n of 40", 0, 40, Edges.BUSY, (z, v) -> Edges.is(z.end(v)), 0, 1);
        Edges.bounds("n of none", 0, 0, Edges.NEW, (z, v) -> Edges.is(z.end(v)), 0, 1);
        doc.end();
    }

    private static void rules() {
        Doc doc = Doc.promise(19);
        doc.says("The TAPE, empty then, are RULES: how many lines.");
        StormOffice x = new StormOffice();
        Edges.due("three", Due.rules(x, "wait when 1=2; wait when 1=3; wait when 1=1;"), 3);
        Edges.due("they are RULES", x.asks(0, 9), 2);
        Edges.due("the TAPE is empty", x.end(1), false);
        doc.says("NONE: a FAULT (they stay).");
        Edges.due("a FAULT", Due.rules(x, "wait when 1=1; wait;"), -1);
        Edges.due("they stay", x.asks(0, 9), 2);
        Edges.due("the TAPE is empty then too", x.end(1), false);
        doc.end();
        doc = Doc.promise(20);
        doc.says("Of the latest rules(): what 0 the FAULT (0 without one), 1 its place (NONE).");
        Edges.due("the FAULT", x.fault(0), 1);
        Edges.due("its place", x.fault(1), 19);
        Due.rules(x, "warn 7/0 when 1=1;");
        Edges.due("another FAULT", x.fault(0), 2);
        Edges.due("its place", x.fault(1), 7);
        Due.rules(x, "wait when (((((((((1=1)))))))));");
        Edges.due("a third FAULT", x.fault(0), 3);
        Edges.due("its place", x.fault(1), 18);
        Due.rules(x, "wait when 1=1;");
        Edges.due("without one", x.fault(0), 0);
        Edges.due("no place", x.fault(1), -1);
        doc.says("NONE for another what.");
        Edges.beyond("what", 0, 1, Edges.BUSY, (y, v) -> y.fault(v), -1);
        doc.end();
        doc = Doc.promise(21);
        doc.says("RULES are ON, or not.");
        Due.rules(x, "warn 1 when near>0;");
        boolean[] told = {false, true, true, false, true};
        int[] warnings = {0, 1, 2, 2, 3};
        for (int i = 0; i < told.length; i++) {
            x.on(told[i]);
            x.minutes(1);
            Edges.due("told " + told[i], x.look(2), warnings[i]);
        }
        doc.end();
        doc = Doc.promise(22);
        doc.says("What is asked of a COUNTY NOW: what 0 seen, 1 words, 2 doubtful, 3 near, 4 soon, 5 people, 6 left, 7 ears, 8 hour;"
                + " 9 the line that is so (NONE).");
        StormOffice y = new StormOffice();
        y.land(56, 4, 80, 0);
        y.land(57, 4, 8, 0);
        y.radar(0, 0, 0, 3);
        y.warn(4, 1);
        y.minutes(60);
        y.judge();
        y.warn(4, 33);
        y.word(60, 53, 1);
        for (int i = 0; i < 3; i++) y.word(60, 56, 5);
        for (int i = 0; i < 4; i++) y.word(60, 57, -1);
        for (int i = 0; i < 2; i++) y.seen(0, 60, 56);
        Due.rules(y, "wait when soon<2; lift when soon=2 and seen=2 and words=3 and doubtful=4;");
        int[] due = {2, 3, 4, 0, 2, 88, 33, 90, 1, 1};
        for (int what = 0; what <= 9; what++) Edges.due("what " + what, y.asks(4, what), due[what]);
        Edges.due("no line of COUNTY 1", y.asks(1, 9), -1);
        Edges.due("COUNTY 0 is near: x 5 and 6 of three rows", y.asks(0, 3), 6);
        doc.says("NONE - 1 if one can't be.");
        Edges.beyond("COUNTY", 0, 7, Edges.BUSY, (z, v) -> z.asks(v, 9), -2);
        Edges.beyond("what", 0, 9, Edges.BUSY, (z, v) -> z.asks(0, v), -2);
        doc.end();
    }

    private static void minutes() {
        Doc doc = Doc.promise(23);
        doc.says("So many MINUTES (1 .. 60) go by: NOW;");
        StormOffice x = new StormOffice();
        Edges.due("1", x.minutes(1), 1);
        Edges.due("60", x.minutes(60), 61);
        Edges.due("NOW", x.look(0), 61);
        doc.says("NONE, and nothing is done, if one can't be, or beyond 719.");
        Edges.beyond("MINUTES", 1, 60, Edges.BUSY, (y, v) -> y.minutes(v), -1);
        Edges.Story late = y -> {
            Edges.until(y, 700);
            Due.rules(y, "warn 1 when 1=1;");
            y.on(true);
        };
        Edges.refused("720", late, y -> y.minutes(20), -1);
        Edges.due("719", Edges.after(late).minutes(19), 719);
        doc.end();
        doc = Doc.promise(24);
        doc.says("A WARNING by hand for so many MINUTES (1 .. 60): its number (of the one that is there, too);");
        Edges.due("the first", x.warn(3, 5), 0);
        Edges.due("it ENDS", x.warning(0, 2), 66);
        Edges.due("another COUNTY's", x.warn(0, 60), 1);
        Edges.due("the one that is there", x.warn(3, 9), 0);
        Edges.due("it ENDS later", x.warning(0, 2), 70);
        x.minutes(9);
        Edges.due("a new one", x.warn(3, 1), 2);
        doc.says("NONE, and nothing is done, if one can't be, or there are 200.");
        Edges.beyond("COUNTY", 0, 7, Edges.BUSY, (y, v) -> y.warn(v, 5), -1);
        Edges.beyond("MINUTES", 1, 60, Edges.BUSY, (y, v) -> y.warn(1, v), -1);
        Edges.Story full = y -> {
            Due.rules(y, "warn 1 when 1=1;");
            y.on(true);
            y.minutes(25);
            y.on(false);
        };
        Edges.due("200", Edges.after(full).look(2), 200);
        Edges.refused("200", full, y -> y.warn(6, 5), -1);
        doc.end();
        doc = Doc.promise(25);
        doc.says("It is lifted: true;");
        Edges.due("lifted", x.lift(0), true);
        Edges.due("it ends NOW", x.warning(1, 2), 70);
        doc.says("false if none is there, or one can't be.");
        Edges.due("none is there", x.lift(0), false);
        Edges.beyond("COUNTY", 0, 7, Edges.BUSY, (y, v) -> Edges.is(y.lift(v)), 0);
        Edges.refused("none is there", Edges.BUSY, y -> Edges.is(y.lift(0)), 0);
        doc.end();
    }

    private static void warnings() {
        StormOffice x = new StormOffice();
        x.warn(2, 4);
        x.minutes(1);
        x.warn(0, 1);
        x.truth(1, 50);
        x.minutes(3);
        Edges.heading("");
        Edges.due("two are JUDGED", x.judge(), 2);
        x.warn(2, 7);
        x.word(4, 0, -1);
        Doc doc = Doc.promise(26);
        doc.says("WARNING w: what 0 COUNTY, 1 when it began, 2 when it ENDS, 3 EARS, 4 0 not JUDGED, 1 RIGHT, 2 FALSE.");
        int[][] due = {{2, 0, 4, 100, 2}, {0, 1, 2, 100, 1}, {2, 4, 11, 90, 0}};
        for (int w = 0; w <= 2; w++) {
            for (int what = 0; what <= 4; what++) Edges.due("WARNING " + w + ", what " + what, x.warning(w, what), due[w][what]);
        }
        doc.says("NONE if there is none such, or another what.");
        Edges.due("none such", x.warning(3, 0), -1);
        Edges.beyond("WARNING", 0, 8, Edges.BUSY, (y, v) -> y.warning(v, 0), -1);
        Edges.beyond("what", 0, 4, Edges.BUSY, (y, v) -> y.warning(0, v), -1);
        doc.end();
        doc = Doc.promise(27);
        doc.says("What 0 NOW, 1 TELLINGS, 2 WARNINGS, 3 those that are there NOW, 4 JUDGED ones, 5 FALSE ones.");
        int[] looks = {4, 1, 3, 1, 2, 1};
        for (int what = 0; what <= 5; what++) Edges.due("what " + what, x.look(what), looks[what]);
        doc.says("NONE for another what.");
        Edges.beyond("what", 0, 5, Edges.BUSY, (y, v) -> y.look(v), -1);
        doc.end();
    }

    private static void truth() {
        Doc doc = Doc.promise(28);
        doc.says("THE TRUTH at MINUTE t (up to NOW) is CELL c (-1: not told): true;");
        StormOffice x = new StormOffice();
        x.land(53, 1, 70, 2);
        x.land(54, 2, 11, 0);
        x.siren(53, true);
        x.minutes(5);
        x.warn(1, 10);
        x.minutes(15);
        Edges.due("told", x.truth(6, 53), true);
        Edges.due("it is so", x.found(6, 6), 70);
        Edges.due("not told any more", x.truth(6, -1), true);
        Edges.due("it is not so", x.found(6, 6), 0);
        Edges.due("NOW", x.truth(20, 54), true);
        doc.says("false, and nothing is done, if one can't be.");
        Edges.bounds("MINUTE", 0, NOW, Edges.BUSY, (y, v) -> Edges.is(y.truth(v, 9)), 0, 1);
        Edges.bounds("CELL", -1, 95, Edges.BUSY, (y, v) -> Edges.is(y.truth(9, v)), 0, 1);
        doc.end();
        doc = Doc.promise(29);
        doc.says("How many of CELL c's PEOPLE are SAFE at MINUTE t (up to NOW);");
        int[] times = {4, 5, 6, 7, 14, 15, 20};
        int[] safe = {0, 0, 0, 70, 70, 0, 0};
        for (int i = 0; i < times.length; i++) Edges.due("at " + times[i], x.safe(times[i], 53), safe[i]);
        Edges.due("of a COUNTY that is not warned", x.safe(9, 54), 0);
        doc.says("NONE if one can't be.");
        Edges.beyond("MINUTE", 0, NOW, Edges.BUSY, (y, v) -> y.safe(v, 4), -1);
        Edges.beyond("CELL", 0, 95, Edges.BUSY, (y, v) -> y.safe(NOW, v), -1);
        doc.end();
        doc = Doc.promise(30);
        doc.says("FOUND in all MINUTES from a to b (0 <= a <= b, up to NOW);");
        x.truth(5, 53);
        x.truth(7, 54);
        x.truth(8, 53);
        x.truth(9, 54);
        Edges.due("5, 7, 9, 20; at 8 all are SAFE", x.found(0, 20), 70 + 11 + 11 + 11);
        Edges.due("at 8", x.found(8, 8), 0);
        Edges.due("7 to 9", x.found(7, 9), 22);
        Edges.due("0 to 4", x.found(0, 4), 0);
        doc.says("NONE if one can't be.");
        Edges.due("a is more than b", x.found(9, 8), -1);
        Edges.beyond("a", 0, NOW, Edges.BUSY, (y, v) -> y.found(v, NOW), -1);
        Edges.beyond("b", 0, NOW, Edges.BUSY, (y, v) -> y.found(0, v), -1);
        doc.end();
        doc = Doc.promise(31);
        doc.says("WARNINGS are JUDGED: how many.");
        x.warn(2, 1);
        Edges.due("one has ENDED", x.judge(), 1);
        Edges.due("RIGHT", x.warning(0, 4), 1);
        Edges.due("none is left", x.judge(), 0);
        x.truth(20, 0);
        x.minutes(1);
        Edges.due("the other has", x.judge(), 1);
        Edges.due("FALSE", x.warning(1, 4), 2);
        doc.end();
        doc = Doc.promise(32);
        doc.says("ENTRIES: what 0 how many, 1 MISSED ones, 2 the sum of LEADS; for one COUNTY (0 .. 7).");
        int[][] due = {{1, 1, 0}, {2, 0, 3}, {2, 2, 0}};
        for (int county = 0; county <= 2; county++) {
            for (int what = 0; what <= 2; what++) Edges.due("COUNTY " + county + ", what " + what, x.entries(county, what), due[county][what]);
        }
        doc.says("NONE if one can't be, or another what.");
        Edges.beyond("COUNTY", 0, 7, Edges.BUSY, (y, v) -> y.entries(v, 0), -1);
        Edges.beyond("what", 0, 2, Edges.BUSY, (y, v) -> y.entries(0, v), -1);
        doc.end();
    }

    private static void posts() {
        Doc doc = Doc.promise(33);
        doc.says("POST p is on CELL c with EYES: true;");
        StormOffice x = new StormOffice();
        x.land(53, 0, 40, 0);
        x.land(0, 0, 30, 0);
        Edges.due("told", x.post(5, 53, 1), true);
        Edges.due("told", x.post(2, 0, 2), true);
        Edges.due("the best one", x.posts(1, 0), 32);
        Edges.due("told anew", x.post(5, 95, 0), true);
        Edges.due("the best one then", x.posts(1, 0), 4);
        x.post(5, 53, 1);
        doc.says("false, and nothing is done, if one can't be.");
        Edges.bounds("POST", 0, 7, Edges.BUSY, (y, v) -> Edges.is(y.post(v, 9, 1)), 0, 1);
        Edges.bounds("CELL", 0, 95, Edges.BUSY, (y, v) -> Edges.is(y.post(1, v, 1)), 0, 1);
        Edges.bounds("EYES", 0, 5, Edges.BUSY, (y, v) -> Edges.is(y.post(1, 9, v)), 0, 1);
        doc.end();
        doc = Doc.promise(34);
        doc.says("BEST POSTS, k of those that are told: what 0 the set, 1 PEOPLE, 2 CELLS.");
        int[][] due = {{0, 0, 0}, {32, 40, 9}, {36, 70, 18}};
        for (int k = 0; k <= 2; k++) {
            for (int what = 0; what <= 2; what++) Edges.due("k " + k + ", what " + what, x.posts(k, what), due[k][what]);
        }
        doc.says("NONE if there are not so many, or another what.");
        Edges.beyond("k of 3", 0, 3, Edges.BUSY, (y, v) -> y.posts(v, 0), -1);
        Edges.beyond("k of none", 0, 0, Edges.NEW, (y, v) -> y.posts(v, 0), -1);
        Edges.beyond("what", 0, 2, Edges.BUSY, (y, v) -> y.posts(1, v), -1);
        doc.end();
    }
}
