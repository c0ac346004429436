/** Promises 14 to 16: PATHS, MISSED, BEST BOX. */
public final class PathsTest {
    public static void main(String[] args) {
        paths();
        missed();
        bestBox();
        ties();
        Due.finish();
    }

    private static void paths() {
        StormOffice x = new StormOffice();
        Due.due("Promise 14: wrong", x.paths(0), -1);
        Due.due("Promise 14: wrong", x.paths(13), -1);
        Due.due("Promise 14: wrong", x.paths(Integer.MIN_VALUE), -1);
        // x and y go apart: rows of n + 1 numbers that differ by 1 at most, counted for 12 and for 8 numbers.
        for (int n = 1; n <= 12; n++) Due.due("Promise 14: paths " + n, x.paths(n), line(12, n) * line(8, n));
        x.storm(16, 0);
        Due.due("Promise 14: staying", x.paths(12), 96);
        x.storm(1 << 3, 0);
        Due.due("Promise 14: to the west", x.paths(3), 9 * 8);
        x.storm(1 << 3, 1);
        Due.due("Promise 14: ahead of THE START", x.paths(1), 0);
        x.storm(511, 0);
        x.minutes(3);
        x.word(3, 0, 0);
        Due.due("Promise 14: from MAYBE NOW", x.paths(1), 4);
        Due.due("Promise 14: from MAYBE NOW", x.paths(2), 25);
        x.minutes(1);
        Due.due("Promise 14: from MAYBE NOW", x.paths(1), 25);
    }

    private static long line(int width, int n) {
        long[] ways = new long[width];
        java.util.Arrays.fill(ways, 1);
        for (int i = 0; i < n; i++) {
            long[] next = new long[width];
            for (int a = 0; a < width; a++) {
                for (int b = Math.max(0, a - 1); b <= Math.min(width - 1, a + 1); b++) next[b] += ways[a];
            }
            ways = next;
        }
        return java.util.Arrays.stream(ways).sum();
    }

    private static void missed() {
        StormOffice x = new StormOffice();
        int[][] wrong = {{0, 0}, {13, 0}, {1, -1}, {1, 256}};
        for (int[] w : wrong) Due.due("Promise 15: wrong", x.missed(w[0], w[1]), -1);
        Due.due("Promise 15: nobody there", x.missed(12, 0), 0);
        x.storm(16, 0);
        x.land(5, 3, 1, 0);
        x.land(6, 3, 0, 0);
        Due.due("Promise 15: one cell with PEOPLE", x.missed(2, 0), 1);
        Due.due("Promise 15: its COUNTY in the BOX", x.missed(2, 8), 0);
        Due.due("Promise 15: another COUNTY in the BOX", x.missed(2, 255 - 8), 1);
        x.storm(48, 0);
        x.word(0, 5, 0);
        Due.due("Promise 15: the first CELL counts", x.missed(1, 0), 2);
        x.land(5, 3, 0, 0);
        x.land(7, 2, 9, 0);
        Due.due("Promise 15: the last CELL counts", x.missed(2, 0), 1);
        Due.due("Promise 15: not reached", x.missed(1, 0), 0);
    }

    private static void bestBox() {
        StormOffice x = new StormOffice();
        int[][] wrong = {{0, 0, 0}, {13, 0, 0}, {1, -1, 0}, {1, 1001, 0}, {1, 0, -1}, {1, 0, 2}};
        for (int[] w : wrong) Due.due("Promise 16: wrong", x.box(w[0], w[1], w[2]), -1);
        // Four CELLS, each a PATH of its own: parts of 250.
        x.storm(16, 0);
        x.radar(0, 0, 11, 0);
        int[] people = {40, 30, 20, 10};
        for (int c = 0; c < 4; c++) {
            x.land(c * 3, c, people[c], 0);
            x.blind(0, c * 3, true);
        }
        x.land(50, 3, 500, 0);
        x.bare(0, 0);
        Due.due("Promise 16: four paths", x.paths(1), 4);
        Due.due("Promise 16: none missed", x.box(1, 0, 0), 15);
        Due.due("Promise 16: its PEOPLE, all of its COUNTIES", x.box(1, 0, 1), 600);
        Due.due("Promise 16: below a quarter", x.box(1, 249, 0), 15);
        Due.due("Promise 16: a quarter", x.box(1, 250, 0), 7);
        Due.due("Promise 16: a quarter", x.box(1, 250, 1), 90);
        Due.due("Promise 16: half", x.box(1, 500, 0), 6);
        Due.due("Promise 16: three quarters", x.box(1, 999, 0), 4);
        Due.due("Promise 16: three quarters", x.box(1, 999, 1), 20);
        Due.due("Promise 16: all", x.box(1, 1000, 0), 0);
        Due.due("Promise 16: all", x.box(1, 1000, 1), 0);
    }

    private static void ties() {
        StormOffice x = new StormOffice();
        x.storm(16, 0);
        x.radar(0, 0, 11, 0);
        int[] people = {10, 5, 5, 10};
        for (int c = 0; c < 4; c++) {
            x.land(c * 3, c, people[c], 0);
            x.blind(0, c * 3, true);
        }
        x.bare(0, 0);
        // Two of four may be missed: {1, 2} has 10; one of three missed: {0, 1, 2} before {1, 2, 3}, both 20.
        Due.due("Promise 16: fewest PEOPLE", x.box(1, 500, 0), 6);
        Due.due("Promise 16: least number", x.box(1, 250, 0), 7);
        Due.due("Promise 16: least number", x.box(1, 750, 0), 2);
        // COUNTY 3 has two of four PATHS: {3} and {0, 1} miss as many and have as many PEOPLE.
        StormOffice y = new StormOffice();
        y.storm(16, 0);
        y.radar(0, 0, 11, 0);
        int[] counties = {3, 3, 0, 1};
        for (int c = 0; c < 4; c++) {
            y.land(c * 3, counties[c], 5, 0);
            y.blind(0, c * 3, true);
        }
        y.bare(0, 0);
        Due.due("Promise 16: fewest COUNTIES", y.box(1, 500, 0), 8);
        Due.due("Promise 16: fewest COUNTIES", y.box(1, 500, 1), 10);
        Due.due("Promise 16: nobody's COUNTY stays out", y.box(1, 0, 0), 11);
        StormOffice z = new StormOffice();
        z.storm(32, 0);
        z.word(0, 5, 0);
        z.land(5, 4, 7, 0);
        z.land(7, 6, 9, 0);
        z.land(8, 7, 1, 0);
        Due.due("Promise 16: the first CELL, which is left at once, and the last", z.box(2, 0, 0), 16 + 64);
        Due.due("Promise 16: their PEOPLE", z.box(2, 0, 1), 16);
    }
}
