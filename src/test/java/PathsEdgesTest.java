/** The boundary cases of promises 14 to 16: PATHS, MISSED, BEST BOX. */
public final class PathsEdgesTest {
    /** The heart stays where it is: each of 96 CELLS is a PATH. */
    private static final Edges.Story STILL = x -> x.storm(16, 0);

    public static void main(String[] args) {
        paths();
        landsEnd();
        missed();
        missedCells();
        box();
        part();
        ties();
        noPaths();
        manyPaths();
        Due.finish();
    }

    private static void paths() {
        Edges.words(14, "for n MINUTES (1 .. 12): NONE if one can't be");
        Edges.bounds("n 1 .. 12", 1, 12, STILL, (x, v) -> x.paths(v), -1, 96);
        Edges.beyond("n 1 .. 12", 1, 12, Edges.BUSY, (x, v) -> x.paths(v), -1);
        Edges.words(14, "all rows of n + 1 CELLS, the first one of MAYBE NOW as known NOW");
        StormOffice x = new StormOffice();
        x.storm(16, 1);
        for (int n : new int[] {1, 12}) Edges.due("NOW is ahead of THE START, n " + n, x.paths(n), 0);
        x.minutes(1);
        for (int n : new int[] {1, 12}) Edges.due("NOW is THE START, n " + n, x.paths(n), 96);
        x.word(1, 0, 0);
        Edges.due("told NOW", x.paths(1), 1);
        x.word(1, 1, 0);
        Edges.due("MAYBE NOW is empty", x.paths(1), 0);
        x.storm(511, 0);
        Edges.due("empty, whatever the MOVES", x.paths(12), 0);
        StormOffice y = new StormOffice();
        y.storm(1 << 4 | 1 << 5, 0);
        y.minutes(2);
        y.word(1, 8, 0);
        // At 2 the heart is at x 8 or 9 of row 0, each with PATHS that stay or go on to x 11 at most.
        Edges.due("2 + 2", y.paths(1), 4);
        Edges.due("4 + 4 - one that would go beyond", y.paths(3), 8 + 7);
        for (int n = 1; n <= 12; n++) Edges.due("all nine MOVES, n " + n, new StormOffice().paths(n), all(n));
    }

    /** x and y go apart from one another: rows of numbers 0 .. 11 and 0 .. 7 that differ by 1 at most. */
    private static long all(int n) {
        return rows(12, n) * rows(8, n);
    }

    private static long rows(int width, int n) {
        long[] ways = new long[width];
        java.util.Arrays.fill(ways, 1);
        for (int i = 0; i < n; i++) {
            long[] next = new long[width];
            for (int a = 0; a < width; a++) {
                next[a] = ways[a] + (a > 0 ? ways[a - 1] : 0) + (a < width - 1 ? ways[a + 1] : 0);
            }
            ways = next;
        }
        long sum = 0;
        for (long w : ways) sum += w;
        return sum;
    }

    private static void landsEnd() {
        Edges.words(14, "each next one by one of MOVES (within the land)");
        int[] corners = {0, 11, 84, 95};
        for (int c : corners) {
            StormOffice x = new StormOffice();
            x.word(0, c, 0);
            Edges.due("from the corner " + c, x.paths(1), 4);
            // Of the four CELLS one is the corner, two are at an edge, one is inside.
            Edges.due("from the corner " + c + ", two MINUTES", x.paths(2), 4 + 6 + 6 + 9);
        }
        int[] left = {77, 84, 77, 88, 96, 88, 77, 84, 77};
        for (int b = 0; b <= 8; b++) {
            StormOffice x = new StormOffice();
            x.storm(1 << b, 0);
            Edges.due("by MOVE " + b, x.paths(1), left[b]);
        }
        StormOffice x = new StormOffice();
        x.storm(1 << 5, 0);
        for (int n = 1; n <= 12; n++) Edges.due("to the east, n " + n, x.paths(n), 8 * (12 - n));
        StormOffice y = new StormOffice();
        y.storm(1 << 7, 0);
        for (int n = 1; n <= 12; n++) Edges.due("on in y, n " + n, y.paths(n), 12 * Math.max(0, 8 - n));
    }

    private static void missed() {
        Edges.words(15, "a BOX (0 .. 255) MISSES; NONE likewise");
        Edges.Story peopled = x -> {
            x.storm(16, 0);
            x.land(7, 4, 1, 0);
        };
        Edges.bounds("n 1 .. 12", 1, 12, peopled, (x, v) -> x.missed(v, 0), -1, 1);
        Edges.beyond("BOX 0 .. 255", 0, 255, peopled, (x, v) -> x.missed(3, v), -1);
        Edges.within("BOX 0 .. 255", 0, 255, peopled, (x, v) -> x.missed(3, v), (x, v) -> (v & 16) != 0 ? 0 : 1);
        Edges.beyond("n 1 .. 12", 1, 12, Edges.BUSY, (x, v) -> x.missed(v, 5), -1);
        Edges.beyond("BOX 0 .. 255", 0, 255, Edges.BUSY, (x, v) -> x.missed(2, v), -1);
        for (int county = 0; county <= 7; county++) {
            StormOffice x = new StormOffice();
            x.storm(16, 0);
            x.land(95, county, 999, 0);
            Edges.due("COUNTY " + county + " alone in the BOX", x.missed(1, 1 << county), 0);
            Edges.due("all but COUNTY " + county, x.missed(1, 255 - (1 << county)), 1);
            Edges.due("all COUNTIES", x.missed(1, 255), 0);
            Edges.due("none", x.missed(1, 0), 1);
        }
    }

    private static void missedCells() {
        Edges.words(15, "some CELL of it has PEOPLE and its COUNTY is not in the BOX");
        Edges.Story east = x -> {
            x.storm(1 << 5, 0);
            x.word(0, 24, 0);
        };
        // The one PATH for 3 MINUTES has CELLS 24 .. 27.
        int[] touched = {0, 1, 1, 1, 1, 0};
        for (int i = 0; i < 6; i++) {
            StormOffice x = Edges.after(east);
            x.land(23 + i, 2, 1, 0);
            Edges.due("PEOPLE 1 in CELL " + (23 + i), x.missed(3, 0), touched[i]);
            Edges.due("in the BOX", x.missed(3, 4), 0);
            x.land(23 + i, 2, 0, 0);
            Edges.due("PEOPLE 0 in CELL " + (23 + i), x.missed(3, 0), 0);
        }
        StormOffice x = Edges.after(east);
        x.land(24, 1, 5, 0);
        x.land(27, 2, 5, 0);
        Edges.due("one of two COUNTIES", x.missed(3, 2), 1);
        Edges.due("the other of two", x.missed(3, 4), 1);
        Edges.due("both", x.missed(3, 6), 0);
        Edges.due("MISSED once, though by two CELLS", x.missed(3, 0), 1);
        Edges.due("the last CELL comes one MINUTE later", x.missed(2, 2), 0);
    }

    private static void box() {
        Edges.words(16, "BEST BOX (part 0 .. 1000): NONE if one can't be, or another what");
        Edges.Story peopled = x -> {
            x.storm(16, 0);
            x.land(7, 4, 9, 0);
        };
        Edges.bounds("n 1 .. 12", 1, 12, peopled, (x, v) -> x.box(v, 0, 0), -1, 16);
        Edges.bounds("n 1 .. 12, PEOPLE", 1, 12, peopled, (x, v) -> x.box(v, 0, 1), -1, 9);
        Edges.beyond("part 0 .. 1000", 0, 1000, peopled, (x, v) -> x.box(3, v, 0), -1);
        // One of 96 is MISSED: 10.4 in thousand.
        Edges.within("part 0 .. 1000", 0, 1000, peopled, (x, v) -> x.box(3, v, 0), (x, v) -> v > 10 ? 0 : 16);
        Edges.within("part 10 and 11", 10, 11, peopled, (x, v) -> x.box(3, v, 0), (x, v) -> v > 10 ? 0 : 16);
        Edges.beyond("what 0 and 1", 0, 1, peopled, (x, v) -> x.box(3, 0, v), -1);
        Edges.within("what 0 and 1", 0, 1, peopled, (x, v) -> x.box(3, 0, v), (x, v) -> v == 0 ? 16 : 9);
        Edges.beyond("n 1 .. 12", 1, 12, Edges.BUSY, (x, v) -> x.box(v, 100, 0), -1);
        Edges.beyond("part 0 .. 1000", 0, 1000, Edges.BUSY, (x, v) -> x.box(2, v, 0), -1);
        Edges.beyond("what 0 and 1", 0, 1, Edges.BUSY, (x, v) -> x.box(2, 100, v), -1);
    }

    /** Cells, each with a COUNTY and PEOPLE, of which each is one PATH: the heart may be in them and stays. */
    private static StormOffice still(int[] counties, int[] people) {
        StormOffice x = new StormOffice();
        x.storm(16, 0);
        x.radar(0, 0, 11, 0);
        for (int i = 0; i < counties.length; i++) {
            x.land(5 * i, counties[i], people[i], 0);
            x.blind(0, 5 * i, true);
        }
        x.bare(0, 0);
        return x;
    }

    private static void part() {
        Edges.words(16, "MISSED ones at most that part of all PATHS");
        for (int paths = 2; paths <= 8; paths++) {
            int[] counties = new int[paths], people = new int[paths];
            for (int i = 0; i < paths; i++) {
                counties[i] = i;
                people[i] = 100 - i;
            }
            StormOffice x = still(counties, people);
            Edges.due(paths + " PATHS", x.paths(7), paths);
            for (int miss = 0; miss <= paths; miss++) {
                // The PATHS of the first COUNTIES, which have the most PEOPLE, are the ones to be MISSED.
                int least = (1000 * miss + paths - 1) / paths;
                int box = (1 << paths) - (1 << miss);
                Edges.due(miss + " of " + paths + ", part " + least, x.box(7, least, 0), box);
                if (miss == 0) continue;
                Edges.due(miss + " of " + paths + ", part " + (least - 1), x.box(7, least - 1, 0), box + (1 << miss - 1));
                if (least < 1000) Edges.due(miss + " of " + paths + ", one more", x.box(7, least + 1, 0), box);
            }
            Edges.due(paths + " PATHS, part 999", x.box(7, 999, 0), 1 << paths - 1);
            Edges.due(paths + " PATHS, part 1000", x.box(7, 1000, 0), 0);
            Edges.due(paths + " PATHS, part 1000", x.box(7, 1000, 1), 0);
        }
        Edges.words(16, "some CELL of it has PEOPLE");
        for (int people = 0; people <= 2; people++) {
            StormOffice one = still(new int[] {6, 2}, new int[] {people, 9});
            Edges.due("PEOPLE " + people + ", none may be MISSED", one.box(1, 0, 0), people == 0 ? 4 : 68);
            Edges.due("PEOPLE " + people + ", one of two may be MISSED", one.box(1, 500, 0), people == 0 ? 0 : 64);
            Edges.due("PEOPLE " + people + ", one of two may be MISSED", one.box(1, 500, 1), people);
        }
        Edges.words(16, "the fewest PEOPLE (all of its COUNTIES)");
        StormOffice x = still(new int[] {0, 1}, new int[] {5, 6});
        Edges.due("5 and 6", x.box(1, 500, 0), 1);
        x.land(94, 0, 1, 0);
        Edges.due("6 and 6, the least number", x.box(1, 500, 0), 1);
        x.land(94, 0, 2, 0);
        Edges.due("7 and 6, by PEOPLE whom no PATH meets", x.box(1, 500, 0), 2);
        Edges.due("7 and 6", x.box(1, 500, 1), 6);
        Edges.due("both", x.box(1, 0, 1), 13);
        x.land(94, 1, 999, 0);
        Edges.due("5 and 1005", x.box(1, 500, 1), 5);
    }

    private static void ties() {
        Edges.words(16, "of several the fewest COUNTIES");
        StormOffice x = still(new int[] {0, 1, 2, 2}, new int[] {5, 5, 5, 5});
        Edges.due("{2} and {0, 1} both miss two and have 10", x.box(1, 500, 0), 4);
        StormOffice y = still(new int[] {6, 7, 0, 0}, new int[] {5, 5, 5, 5});
        Edges.due("{0} and {6, 7}", y.box(1, 500, 0), 1);
        StormOffice z = still(new int[] {3}, new int[] {0});
        z.land(94, 5, 0, 0);
        Edges.due("COUNTIES without PEOPLE stay out", z.box(1, 0, 0), 0);
        Edges.words(16, "then the least number");
        for (int low = 0; low < 7; low++) {
            StormOffice w = still(new int[] {low, low + 1}, new int[] {8, 8});
            Edges.due("{" + low + "} and {" + (low + 1) + "}", w.box(1, 500, 0), 1 << low);
        }
        StormOffice w = still(new int[] {7, 0, 5, 2}, new int[] {8, 8, 8, 8});
        Edges.due("two of four", w.box(1, 500, 0), 1 + 4);
        Edges.due("three of four", w.box(1, 250, 0), 1 + 4 + 32);
        Edges.due("one of four", w.box(1, 750, 0), 1);
    }

    private static void noPaths() {
        Edges.words(16, "no PATHS at all");
        StormOffice x = new StormOffice();
        x.land(0, 1, 50, 0);
        x.storm(511, 1);
        for (int part : new int[] {0, 1, 999, 1000}) {
            Edges.due("ahead of THE START, part " + part, x.box(1, part, 0), 0);
            Edges.due("ahead of THE START, part " + part, x.box(1, part, 1), 0);
        }
        Edges.due("none is MISSED", x.missed(12, 0), 0);
        StormOffice y = new StormOffice();
        y.storm(1 << 5, 0);
        y.word(0, 10, 0);
        y.land(10, 1, 50, 0);
        y.land(11, 2, 50, 0);
        Edges.due("one PATH to the row's end", y.paths(1), 1);
        Edges.due("its BOX", y.box(1, 0, 0), 6);
        Edges.due("beyond the row's end", y.paths(2), 0);
        Edges.due("no BOX is needed", y.box(2, 0, 0), 0);
        Edges.due("none is MISSED", y.missed(2, 0), 0);
        StormOffice z = new StormOffice();
        z.storm(1 << 5 | 1 << 4, 0);
        z.radar(0, 0, 11, 0);
        z.blind(0, 0, true);
        z.blind(0, 11, true);
        z.bare(0, 0);
        z.storm(1 << 5, 0);
        z.land(0, 3, 10, 0);
        z.land(11, 4, 10, 0);
        Edges.due("a CELL from which no PATH goes on needs no COUNTY", z.box(1, 0, 0), 8);
        Edges.due("one PATH", z.missed(1, 0), 1);
    }

    private static void manyPaths() {
        Edges.words(15, "more PATHS than an int has");
        StormOffice x = new StormOffice();
        for (int c = 0; c < 96; c++) x.land(c, c / 48, 999, 0);
        for (int n : new int[] {9, 12}) {
            Edges.due("all MISSED, n " + n, x.missed(n, 0), all(n));
            Edges.due("none MISSED, n " + n, x.missed(n, 3), 0);
            // Rows 0 .. 3 alone, or 4 .. 7 alone.
            Edges.due("half the land, n " + n, x.missed(n, 1), all(n) - rows(12, n) * rows(4, n));
            Edges.due("the other half, n " + n, x.missed(n, 2), all(n) - rows(12, n) * rows(4, n));
        }
        Edges.words(16, "more PATHS than an int has");
        long part = (1000 * (all(12) - rows(12, 12) * rows(4, 12)) + all(12) - 1) / all(12);
        Edges.due("just the part that half the land misses", x.box(12, (int) part, 0), 1);
        Edges.due("one less", x.box(12, (int) part - 1, 0), 3);
        Edges.due("its PEOPLE", x.box(12, (int) part - 1, 1), 95904);
        Edges.due("all of them", x.box(12, 1000, 0), 0);
        Edges.due("all but less than a thousandth", x.box(12, 999, 0), 1);
    }
}
