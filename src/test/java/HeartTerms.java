import java.util.ArrayList;
import java.util.HashSet;
import java.util.List;
import java.util.Set;

/** Parts 0 to 3 of the document, sentence by sentence: the land, what is told of the heart, the PATHS it may take. */
final class HeartTerms {
    /** PEOPLE of a CELL by its number modulo 3, in part 3. */
    private static final int[] COUNTED = {0, 7, 12};

    private HeartTerms() { }

    static void test() {
        whatItIs();
        land();
        tellings();
        threeOfOneMinute();
        paths();
    }

    private static int far(int a, int b) {
        return Math.max(Math.abs(a % 12 - b % 12), Math.abs(a / 12 - b / 12));
    }

    /** Row 0 is COUNTY 1 up to x 5 and COUNTY 2 from there on; the heart stays or goes east. */
    private static StormOffice row() {
        StormOffice x = new StormOffice();
        for (int c = 0; c < 12; c++) x.land(c, c < 6 ? 1 : 2, 0, 0);
        x.land(5, 1, 100, 2);
        x.land(6, 2, 900, 2);
        x.siren(4, true);
        x.storm(1 << 4 | 1 << 5, 0);
        x.radar(0, 0, 3, 0);
        x.blind(0, 2, true);
        x.bare(0, 0);
        x.minutes(1);
        x.seen(0, 1, 3);
        x.minutes(1);
        x.word(2, 5, 1);
        return x;
    }

    private static void whatItIs() {
        Doc doc = Doc.part(0);
        doc.says("An office for storms that turn: where the heart of one may be, minute by minute, by sweeps that saw it,"
                + " sweeps that saw nothing but where they are blind, and spotters' words, as it was known at any minute;");
        StormOffice x = row();
        Edges.due("swept bare but for the blind CELL", x.count(0, 0, 0), 96 - 16 + 1);
        Edges.due("seen one MINUTE later", x.count(1, 1, 0), 1);
        Edges.due("not yet known at 0: all but x 0 .. 3 of four rows, the blind CELL and the one beside", x.count(1, 0, 0), 96 - 16 + 2);
        Edges.due("by the spotters' WORD it is one CELL farther", x.maybe(2, 2, 4), 1);
        Edges.due("it is nowhere else", x.count(2, 2, 0), 1);
        Edges.due("ahead of the WORD it might have stayed", x.maybe(2, 1, 3), 1);
        doc.says("what is left of that when later sights are known;");
        Edges.due("at 0 the blind CELL alone", x.count(0, 1, 1), 1);
        Edges.due("at 0 the blind CELL alone", x.count(0, 1, 10 + 2), 1);
        doc.says("all paths it may take and the box of counties with the fewest people that misses no more of them than told;");
        Edges.due("two ways a MINUTE from CELL 4", x.paths(2), 4);
        Edges.due("one of four comes to CELL 6", x.missed(2, 1 << 1), 1);
        Edges.due("the box without CELL 6", x.box(2, 250, 0), 1 << 1);
        Edges.due("its people", x.box(2, 250, 1), 100);
        Edges.due("the box that misses none", x.box(2, 249, 1), 1000);
        doc.says("counties warned and lifted by rules told as texts;");
        Edges.due("two lines", Due.rules(x, "warn 9 when people > 0 and soon < 2; lift when left > 0;"), 2);
        x.on(true);
        Edges.due("one MINUTE", x.minutes(1), 3);
        Edges.due("COUNTY 1 is warned", x.asks(1, 6), 8);
        Edges.due("COUNTY 2 is not, it is two MINUTES off", x.asks(2, 6), 0);
        Edges.due("the next MINUTE", x.minutes(1), 4);
        Edges.due("COUNTY 2 is one MINUTE off", x.asks(2, 6), 8);
        x.minutes(1);
        x.storm(1 << 3, 0);
        x.minutes(1);
        Edges.due("the heart is gone: both are lifted", x.look(3), 0);
        x.on(false);
        doc.says("sirens, ears that grow deaf, shelters reached in minutes;");
        Edges.due("by the siren beside, two MINUTES on", x.safe(4, 5), 100);
        Edges.due("one MINUTE earlier", x.safe(3, 5), 0);
        Edges.due("without a siren, not yet", x.safe(4, 6), 0);
        Edges.due("both are judged", x.judge(), 2);
        Edges.due("a false one makes deaf", x.asks(1, 7), 90);
        doc.says("posts for spotters;");
        x.post(0, 0, 1);
        x.post(1, 6, 0);
        Edges.due("the post at CELL 6, which no RADAR sees", x.posts(1, 0), 2);
        Edges.due("the people that it sees", x.posts(1, 1), 900);
        doc.says("warnings judged when the true path is told, and whom it found outside.");
        x.warn(1, 3);
        x.warn(2, 3);
        x.truth(6, 5);
        x.minutes(3);
        Edges.due("both have ended", x.judge(), 2);
        Edges.due("COUNTY 1's was right", x.warning(2, 4), 1);
        Edges.due("COUNTY 2's was false", x.warning(3, 4), 2);
        Edges.due("nobody was in the shelters yet", x.found(0, 9), 100);
        doc.end();
    }

    private static void land() {
        Doc doc = Doc.part(1);
        doc.says("An object is used for at most 512 calls after it has been made; what later calls answer is free.");
        StormOffice many = new StormOffice();
        for (int i = 1; i < 512; i++) many.siren(i % 96, i % 2 == 0);
        Edges.due("the 512th call", many.of(31, 3), 0);
        // They are free to answer anything, but have to answer.
        for (int i = 0; i < 600; i++) many.word(0, 0, -1);
        Edges.due("a call behind them ends", many.look(0) == many.look(0), true);
        doc.says("CELLS 0 .. 95: x 0 .. 11, y 0 .. 7, CELL 12 y + x; far from one another by the greater of how much x and y differ.");
        for (int c = 0; c < 96; c += 7) {
            for (int range = 0; range <= 11; range += 3) {
                StormOffice x = new StormOffice();
                x.radar(0, c, range, 0);
                for (int to = 0; to < 96; to++) {
                    Edges.due(c + " and " + to + ", RANGE " + range, x.of(to, 4), far(c, to) <= range ? 1 : 0);
                }
            }
        }
        Edges.due("no CELL -1", new StormOffice().of(-1, 0), -1);
        Edges.due("no CELL 96", new StormOffice().of(96, 0), -1);
        doc.says("Each is in a COUNTY 0 .. 7 (0 at first), has PEOPLE 0 .. 999 (0), SHELTERS that are reached in"
                + " 0 .. 30 minutes (10), a SIREN or none (none).");
        int[] first = {0, 0, 10, 0};
        int[][] bounds = {{0, 7}, {0, 999}, {0, 30}};
        for (int c = 0; c < 96; c++) {
            StormOffice x = new StormOffice();
            for (int what = 0; what <= 3; what++) Edges.due("CELL " + c + " at first, what " + what, x.of(c, what), first[what]);
            for (int side = 0; side <= 1; side++) {
                x.land(c, bounds[0][side], bounds[1][side], bounds[2][side]);
                for (int what = 0; what <= 2; what++) Edges.due("CELL " + c + ", what " + what, x.of(c, what), bounds[what][side]);
            }
            Edges.due("CELL " + c + ", no COUNTY 8", x.land(c, 8, 0, 0), false);
            Edges.due("CELL " + c + ", no PEOPLE 1000", x.land(c, 0, 1000, 0), false);
            Edges.due("CELL " + c + ", no SHELTERS in 31", x.land(c, 0, 0, 31), false);
            x.siren(c, true);
            Edges.due("CELL " + c + " has a SIREN", x.of(c, 3), 1);
        }
        doc.says("MINUTES 0 .. 719; NOW is one (0 at first).");
        StormOffice x = new StormOffice();
        Edges.due("at first", x.look(0), 0);
        Edges.until(x, 719);
        Edges.due("no MINUTE 720", x.minutes(1), -1);
        Edges.due("719 is the last", x.look(0), 719);
        Edges.due("of MINUTE 0", x.maybe(0, 0, 0), 1);
        Edges.due("of MINUTE 719", x.maybe(719, 719, 0), 1);
        Edges.due("of MINUTE 720", x.maybe(720, 719, 0), -1);
        movesAndRadars(doc);
        doc.end();
    }

    private static void movesAndRadars(Doc doc) {
        doc.says("MOVES: a set 1 .. 511 (511 at first): MOVE b, 0 .. 8, goes b modulo 3 less 1 in x, b by 3 less 1 in y.");
        for (int moves = 1; moves <= 511; moves++) {
            StormOffice x = new StormOffice();
            x.word(0, 53, 0);
            Edges.due("MOVES " + moves, x.storm(moves, 0), true);
            for (int b = 0; b <= 8; b++) {
                int to = 12 * (53 / 12 + b / 3 - 1) + 53 % 12 + b % 3 - 1;
                Edges.due("MOVES " + moves + " to CELL " + to, x.maybe(1, 0, to), moves >> b & 1);
            }
        }
        StormOffice all = new StormOffice();
        all.word(0, 53, 0);
        Edges.due("all nine at first", all.count(1, 0, 0), 9);
        Edges.due("no MOVES", all.storm(0, 0), false);
        Edges.due("MOVE 9", all.storm(512, 0), false);
        doc.says("THE START is a MINUTE (0 at first).");
        StormOffice x = new StormOffice();
        Edges.due("0 at first", x.count(0, 0, 0), 96);
        Edges.due("the last MINUTE", x.storm(511, 719), true);
        Edges.due("ahead of it", x.count(718, 0, 0), 0);
        Edges.due("720 is none", x.storm(511, 720), false);
        Edges.due("-1 is none", x.storm(511, -1), false);
        doc.says("RADARS 0 .. 2 stand on CELLS, with a RANGE 0 .. 11 and an OFF 0 .. 3; CELLS may be told as BLIND for one.");
        StormOffice y = new StormOffice();
        for (int r = 0; r <= 2; r++) {
            Edges.due("RADAR " + r + " on CELL 0", y.radar(r, 0, 0, 0), true);
            Edges.due("RADAR " + r + " on CELL 95", y.radar(r, 95, 11, 3), true);
            Edges.due("a CELL is BLIND for it", y.blind(r, 7, true), true);
        }
        Edges.due("RADAR 3", y.radar(3, 0, 0, 0), false);
        Edges.due("RANGE 12", y.radar(0, 0, 12, 0), false);
        Edges.due("OFF 4", y.radar(0, 0, 0, 4), false);
        Edges.due("BLIND for all three", y.of(7, 4), 0);
        doc.says("It SEES the CELLS that are no farther than RANGE, and not BLIND for it.");
        StormOffice z = new StormOffice();
        z.radar(1, 53, 2, 0);
        z.radar(2, 53, 2, 0);
        z.blind(1, 55, true);
        z.blind(1, 56, true);
        Edges.due("two far", z.of(51, 4), 6);
        Edges.due("two far, BLIND for RADAR 1", z.of(55, 4), 4);
        Edges.due("three far", z.of(50, 4), 0);
        Edges.due("three far, BLIND for RADAR 1", z.of(56, 4), 0);
    }

    private static void tellings() {
        Doc doc = Doc.part(2);
        doc.says("TELLINGS are told NOW, of a MINUTE up to NOW (300 at most):");
        StormOffice x = new StormOffice();
        x.radar(0, 0, 0, 0);
        x.minutes(4);
        for (int t = -1; t <= 5; t++) {
            boolean can = t >= 0 && t <= 4;
            Edges.due("SEEN of " + t, x.seen(0, t, 0), can);
            Edges.due("BARE of " + t, x.bare(0, t), can);
            Edges.due("a WORD of " + t, x.word(t, 0, 0), can);
        }
        for (int told = 15; told < 300; told++) Edges.due("after " + told, x.word(told % 5, told % 96, told % 7 - 1), true);
        Edges.due("300", x.look(1), 300);
        Edges.due("a SEEN is too many", x.seen(0, 4, 0), false);
        Edges.due("a BARE is too many", x.bare(0, 4), false);
        Edges.due("an unsure WORD is too many", x.word(4, 0, -1), false);
        Edges.due("300 still", x.look(1), 300);
        doc.says("SEEN: a RADAR has the heart at a CELL: it is no farther from it than OFF.");
        for (int off = 0; off <= 3; off++) {
            for (int at : new int[] {0, 11, 40, 53, 84, 95}) {
                StormOffice z = new StormOffice();
                z.radar(2, 7, 0, off);
                z.seen(2, 0, at);
                for (int c = 0; c < 96; c++) Edges.due("OFF " + off + " at " + at + ": " + c, z.maybe(0, 0, c), far(at, c) <= off ? 1 : 0);
            }
        }
        doc.says("BARE: a RADAR has swept and seen nothing: it is in no CELL that it SEES (as told when it is asked).");
        sweptOnly("as it was told", Edges.NEW);
        sweptOnly("with a BLIND CELL", it -> it.blind(1, 54, true));
        sweptOnly("another in place of it", it -> it.radar(1, 0, 4, 0));
        StormOffice y = new StormOffice();
        y.radar(1, 0, 4, 0);
        y.bare(1, 0);
        y.radar(0, 95, 11, 0);
        Edges.due("a RADAR that has not swept", y.count(0, 0, 0), 96 - 25);
        doc.says("WORDS of spotters: a CELL and a DOUBT 0 .. 5: the heart is no farther from it than that;");
        for (int doubt = 0; doubt <= 5; doubt++) {
            for (int at : new int[] {0, 11, 40, 53, 84, 95}) {
                StormOffice z = new StormOffice();
                z.word(0, at, doubt);
                for (int c = 0; c < 96; c++) Edges.due("DOUBT " + doubt + " at " + at + ": " + c, z.maybe(0, 0, c), far(at, c) <= doubt ? 1 : 0);
            }
        }
        Edges.due("DOUBT 6", new StormOffice().word(0, 0, 6), false);
        doc.says("or unsure ones, by which nothing is so.");
        StormOffice z = new StormOffice();
        Edges.due("told", z.word(0, 53, -1), true);
        Edges.due("all CELLS still", z.count(0, 0, 0), 96);
        doc.says("AS KNOWN at a MINUTE k: those told by then.");
        StormOffice w = new StormOffice();
        w.minutes(2);
        w.word(0, 53, 0);
        w.minutes(2);
        w.word(0, 53, -1);
        w.word(0, 54, 0);
        int[] known = {96, 96, 1, 1, 0};
        for (int k = 0; k <= 4; k++) Edges.due("told at 2 and at 4, at " + k, w.count(0, k, 0), known[k]);
        afterAndQuarrel(doc);
        doc.end();
    }

    /** A BARE of RADAR 1 is told, then what comes: MAYBE has the CELLS that it does not SEE then. */
    private static void sweptOnly(String name, Edges.Story then) {
        StormOffice x = new StormOffice();
        x.radar(1, 53, 1, 0);
        x.bare(1, 0);
        then.on(x);
        for (int c = 0; c < 96; c++) Edges.due(name + ", CELL " + c, x.maybe(0, 0, c), x.of(c, 4) == 2 ? 0 : 1);
    }

    /** By MOVES 2 and 7 from x 2 .. 6, y 1 .. 5 at MINUTE 3; at MINUTE 5 x 5 alone, y 2 .. 4. */
    private static final Edges.Story TOLD_AT_6 = x -> {
        x.storm(1 << 2 | 1 << 7, 3);
        x.minutes(6);
        x.word(3, 40, 2);
        x.word(5, 42, 1);
        x.word(5, 40, 1);
    };

    private static Set<Integer> byMoves2And7(int c) {
        Set<Integer> next = new HashSet<>();
        if (c % 12 < 11 && c / 12 > 0) next.add(c - 11);
        if (c / 12 < 7) next.add(c + 12);
        return next;
    }

    /** MAYBE at MINUTES 0 .. 20 of the story, by its words. */
    private static List<Set<Integer>> maybeOfTheStory() {
        List<Set<Integer>> rows = new ArrayList<>();
        for (int t = 0; t <= 20; t++) {
            Set<Integer> row = new HashSet<>();
            for (int c = 0; c < 96 && t == 3; c++) if (far(c, 40) <= 2) row.add(c);
            if (t > 3) for (int c : rows.get(t - 1)) row.addAll(byMoves2And7(c));
            if (t == 5) row.removeIf(c -> far(c, 42) > 1 || far(c, 40) > 1);
            rows.add(row);
        }
        return rows;
    }

    private static boolean goesOn(List<Set<Integer>> rows, int c, int t, int last) {
        if (!rows.get(t).contains(c)) return false;
        if (t >= last) return true;
        for (int to : byMoves2And7(c)) if (goesOn(rows, to, t + 1, last)) return true;
        return false;
    }

    private static void afterAndQuarrel(Doc doc) {
        doc.says("MAYBE at MINUTE t, as known at k: at THE START all CELLS; then those to which one of MOVES goes from a CELL of"
                + " the MINUTE ahead (one that goes beyond the land is gone); of these, at each MINUTE, THE START's too, those that"
                + " all TELLINGS of it allow. Ahead of THE START none.");
        List<Set<Integer>> rows = maybeOfTheStory();
        for (int t = 0; t <= 20; t++) {
            StormOffice x = Edges.after(TOLD_AT_6);
            for (int c = 0; c < 96; c++) Edges.due("CELL " + c + " at " + t, x.maybe(t, 6, c), rows.get(t).contains(c) ? 1 : 0);
        }
        doc.says("AFTER: CELLS of MAYBE at t from which the heart can go on, MINUTE by MINUTE, within MAYBE up to the last MINUTE of"
                + " which a SEEN, a BARE or a sure WORD is known at k (from that MINUTE on as MAYBE).");
        for (int t = 0; t <= 8; t++) {
            StormOffice x = Edges.after(TOLD_AT_6);
            for (int c = 0; c < 96; c++) Edges.due("CELL " + c + " at " + t, x.count(t, 6, 10 + c), goesOn(rows, c, t, 5) ? 1 : 0);
        }
        StormOffice x = Edges.after(TOLD_AT_6);
        Edges.due("not known at 5: as MAYBE", x.count(3, 5, 1), x.count(3, 5, 0));
        Edges.due("known at 6: less than MAYBE", x.count(3, 6, 1) < x.count(3, 6, 0), true);
        doc.says("QUARREL as known at k: the first MINUTE from THE START on, up to k, at which MAYBE is empty.");
        Edges.due("none", x.quarrel(6), -1);
        x.word(6, 0, 1);
        Edges.due("at 6", x.quarrel(6), 6);
        x.word(4, 95, 0);
        Edges.due("the first", x.quarrel(6), 4);
        Edges.due("nothing was known at 5", x.quarrel(5), -1);
        x.storm(511, 5);
        Edges.due("from THE START on", x.quarrel(6), 6);
        x.storm(511, 6);
        Edges.due("from THE START on there is none", x.quarrel(6), -1);
    }

    private static void threeOfOneMinute() {
        Edges.heading("Part 2, three TELLINGS of one MINUTE: ");
        StormOffice x = new StormOffice();
        x.radar(0, 52, 1, 1);
        x.seen(0, 0, 53);
        x.bare(0, 0);
        x.word(0, 53, 1);
        // x 4 .. 6 by the SEEN and the WORD, x 3 .. 5 are swept bare: x 6 is left, y 3 .. 5.
        Edges.due("three CELLS", x.count(0, 0, 0), 3);
        for (int c : new int[] {42, 54, 66}) Edges.due("CELL " + c, x.maybe(0, 0, c), 1);
    }

    private static void paths() {
        Doc doc = Doc.part(3);
        doc.says("PATHS for n MINUTES (1 .. 12): all rows of n + 1 CELLS, the first one of MAYBE NOW as known NOW, each next one by"
                + " one of MOVES (within the land).");
        StormOffice x = new StormOffice();
        x.storm(1 << 4 | 1 << 5 | 1 << 7, 0);
        x.minutes(1);
        x.word(1, 82, 1);
        int[] first = {69, 70, 71, 81, 82, 83, 93, 94, 95};
        for (int n = 0; n <= 13; n++) {
            long rows = 0;
            for (int c : first) rows += rowsFrom(c, n, -1);
            Edges.due("n " + n, x.paths(n), n < 1 || n > 12 ? -1 : rows);
        }
        doc.says("A PATH is MISSED by a BOX (a set of COUNTIES), if some CELL of it has PEOPLE and its COUNTY is not in the BOX.");
        for (int c = 69; c < 96; c++) x.land(c, c % 8, COUNTED[c % 3], 0);
        for (int box = 0; box <= 255; box += 5) {
            long rows = 0;
            for (int c : first) rows += rowsFrom(c, 4, -1) - rowsFrom(c, 4, box);
            Edges.due("BOX " + box, x.missed(4, box), rows);
        }
        doc.says("BEST BOX for a part in thousand: the fewest PEOPLE (all of its COUNTIES) with MISSED ones at most that part of all"
                + " PATHS; of several the fewest COUNTIES; then the least number.");
        for (int part : new int[] {0, 1, 100, 250, 333, 500, 750, 900, 999, 1000}) {
            int best = -1;
            for (int box = 0; box <= 255; box++) {
                long all = 0, kept = 0;
                for (int c : first) {
                    all += rowsFrom(c, 4, -1);
                    kept += rowsFrom(c, 4, box);
                }
                if ((all - kept) * 1000 <= part * all && (best < 0 || order(box, best) < 0)) best = box;
            }
            Edges.due("part " + part, x.box(4, part, 0), best);
            Edges.due("part " + part + ", its PEOPLE", x.box(4, part, 1), people(best));
        }
        doc.end();
    }

    /** Rows of CELLS from c by MOVES 4, 5 and 7, of those that the BOX does not miss (-1: of all). */
    private static long rowsFrom(int c, int n, int box) {
        if (box >= 0 && c >= 69 && COUNTED[c % 3] > 0 && (box >> c % 8 & 1) == 0) return 0;
        if (n <= 0) return 1;
        long rows = rowsFrom(c, n - 1, box);
        if (c % 12 < 11) rows += rowsFrom(c + 1, n - 1, box);
        if (c / 12 < 7) rows += rowsFrom(c + 12, n - 1, box);
        return rows;
    }

    private static int people(int box) {
        int sum = 0;
        for (int c = 69; c < 96; c++) if ((box >> c % 8 & 1) == 1) sum += COUNTED[c % 3];
        return sum;
    }

    /** Boxes are tried from the least number on, so that of equal ones the first stays. */
    private static int order(int a, int b) {
        int byPeople = Integer.compare(people(a), people(b));
        return byPeople != 0 ? byPeople : Integer.compare(Integer.bitCount(a), Integer.bitCount(b));
    }
}
