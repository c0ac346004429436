/** The boundary cases of promises 33 and 34: POSTS, and the best of them. */
public final class PostsEdgesTest {
    public static void main(String[] args) {
        post();
        eyes();
        posts();
        noRadarSees();
        best();
        ties();
        Due.finish();
    }

    private static void post() {
        Edges.words(33, "POST p is on CELL c with EYES: true; false, and nothing is done, if one can't be");
        Edges.bounds("POSTS 0 .. 7", 0, 7, Edges.BUSY, (x, v) -> Edges.is(x.post(v, 60, 2)), 0, 1);
        Edges.bounds("CELL 0 .. 95", 0, 95, Edges.BUSY, (x, v) -> Edges.is(x.post(3, v, 2)), 0, 1);
        Edges.bounds("EYES 0 .. 5", 0, 5, Edges.BUSY, (x, v) -> Edges.is(x.post(3, 60, v)), 0, 1);
        Edges.beyond("EYES 0 .. 5, a POST that is not told", 0, 5, Edges.NEW, (x, v) -> Edges.is(x.post(3, 60, v)), 0);
        for (int p = 0; p <= 7; p++) {
            StormOffice x = new StormOffice();
            Edges.due("POST " + p, x.post(p, 50, 1), true);
            Edges.due("POST " + p + " alone", x.posts(1, 0), 1 << p);
            Edges.due("no other is told", x.posts(2, 0), -1);
            Edges.due("in place of it", x.post(p, 0, 0), true);
            Edges.due("still one", x.posts(2, 0), -1);
            Edges.due("its old CELLS are not seen", x.posts(1, 2), 1);
            Edges.due("refused in place of it", x.post(p, 50, 6), false);
            Edges.due("it is as it was", x.posts(1, 2), 1);
        }
    }

    private static void eyes() {
        Edges.words(33, "EYES 0 .. 5: from one all CELLS no farther are seen");
        int[] rows = {1, 3, 5, 7, 8, 8};
        for (int eyes = 0; eyes <= 5; eyes++) {
            StormOffice x = new StormOffice();
            x.post(0, 53, eyes);
            Edges.due("inside, EYES " + eyes, x.posts(1, 2), (2 * eyes + 1) * rows[eyes]);
            for (int corner : new int[] {0, 11, 84, 95}) {
                x.post(0, corner, eyes);
                Edges.due("at the corner " + corner + ", EYES " + eyes, x.posts(1, 2), (eyes + 1) * (eyes + 1));
            }
            for (int side : new int[] {-1, 1}) {
                StormOffice y = new StormOffice();
                y.post(0, 53, eyes);
                y.land(53 + side * eyes, 0, 7, 0);
                Edges.due("just so far, EYES " + eyes, y.posts(1, 1), 7);
                StormOffice z = new StormOffice();
                z.post(0, 53, eyes);
                z.land(53 + side * (eyes == 5 && side < 0 ? 0 : eyes + 1), 0, 7, 0);
                Edges.due("one farther, EYES " + eyes, z.posts(1, 1), eyes == 5 && side < 0 ? 7 : 0);
            }
        }
        StormOffice x = new StormOffice();
        x.post(0, 11, 1);
        x.land(12, 0, 50, 0);
        Edges.due("not around the row's end", x.posts(1, 1), 0);
    }

    private static void posts() {
        Edges.words(34, "k of those that are told (0 .. 8): NONE if there are not so many, or another what");
        for (int told = 0; told <= 8; told++) {
            int n = told;
            Edges.Story some = x -> {
                for (int p = 0; p < n; p++) x.post(7 - p, 12 * p, 0);
            };
            for (int what = 0; what <= 2; what++) {
                int w = what;
                Edges.beyond(n + " are told, what " + w, 0, n, some, (x, v) -> x.posts(v, w), -1);
            }
            // Each sees one CELL without PEOPLE: the least set of k has the lowest numbers that are told.
            Edges.within(n + " are told", 0, n, some, (x, v) -> x.posts(v, 0), (x, v) -> (1 << v) - 1 << 8 - n);
            Edges.within(n + " are told, PEOPLE", 0, n, some, (x, v) -> x.posts(v, 1), (x, v) -> 0);
            Edges.within(n + " are told, CELLS", 0, n, some, (x, v) -> x.posts(v, 2), (x, v) -> v);
            Edges.beyond(n + " are told, what 0 .. 2", 0, 2, some, (x, v) -> x.posts(n, v), -1);
        }
        Edges.beyond("three are told", 0, 3, Edges.BUSY, (x, v) -> x.posts(v, 0), -1);
        Edges.beyond("what 0 .. 2", 0, 2, Edges.BUSY, (x, v) -> x.posts(2, v), -1);
    }

    private static void noRadarSees() {
        Edges.words(34, "CELLS that are seen from them and that no RADAR SEES");
        StormOffice x = new StormOffice();
        x.post(0, 53, 1);
        x.land(52, 0, 10, 0);
        x.land(54, 0, 20, 0);
        Edges.due("no RADAR", x.posts(1, 1), 30);
        x.radar(2, 50, 2, 0);
        Edges.due("RANGE 2 SEES the one that is two far", x.posts(1, 1), 20);
        Edges.due("RANGE 2, three CELLS less", x.posts(1, 2), 6);
        x.radar(2, 50, 1, 0);
        Edges.due("RANGE 1 does not", x.posts(1, 1), 30);
        Edges.due("RANGE 1, all CELLS", x.posts(1, 2), 9);
        x.radar(2, 50, 4, 0);
        Edges.due("RANGE 4 SEES both", x.posts(1, 1), 0);
        Edges.due("RANGE 4, all", x.posts(1, 2), 0);
        Edges.due("RANGE 4, the POST is the best still", x.posts(1, 0), 1);
        x.blind(2, 54, true);
        Edges.due("BLIND for one", x.posts(1, 1), 20);
        Edges.due("BLIND for one", x.posts(1, 2), 1);
        x.radar(0, 54, 0, 0);
        Edges.due("another RADAR SEES it", x.posts(1, 1), 0);
        x.radar(1, 0, 11, 3);
        Edges.due("all CELLS", x.posts(1, 2), 0);
    }

    private static void best() {
        Edges.words(34, "the most PEOPLE in CELLS");
        for (int more : new int[] {9, 10, 11}) {
            StormOffice x = new StormOffice();
            x.land(0, 0, 10, 0);
            x.land(50, 0, more, 0);
            x.post(2, 0, 0);
            x.post(5, 50, 0);
            Edges.due("10 and " + more, x.posts(1, 0), more > 10 ? 32 : 4);
            Edges.due("10 and " + more, x.posts(1, 1), Math.max(10, more));
            Edges.due("both", x.posts(2, 1), 10 + more);
        }
        StormOffice y = new StormOffice();
        y.land(50, 0, 100, 0);
        y.land(95, 0, 10, 0);
        for (int p = 0; p < 7; p++) y.post(p, 50, p < 6 ? p : 5);
        y.post(7, 95, 0);
        Edges.due("CELLS that two see are counted once", y.posts(2, 1), 110);
        Edges.due("the least that has the most CELLS, and the other", y.posts(2, 0), 32 + 128);
        Edges.due("eight of eight", y.posts(8, 0), 255);
        Edges.due("eight of eight", y.posts(8, 1), 110);
        StormOffice z = new StormOffice();
        z.land(49, 0, 30, 0);
        z.land(50, 0, 40, 0);
        z.land(51, 0, 30, 0);
        z.post(0, 50, 0);
        z.post(1, 49, 0);
        z.post(2, 51, 0);
        z.post(3, 36, 1);
        // CELL 36 is x 0, y 3: it sees x 0 and 1 of y 2 .. 4, CELL 49 too.
        Edges.due("the best one", z.posts(1, 0), 1);
        Edges.due("the best two: 70, and six CELLS beside", z.posts(2, 0), 1 + 8);
        Edges.due("the best three", z.posts(3, 1), 100);
        Edges.due("the best three", z.posts(3, 0), 1 + 4 + 8);
    }

    private static void ties() {
        Edges.words(34, "of several the most such CELLS");
        StormOffice x = new StormOffice();
        x.land(50, 0, 10, 0);
        x.post(1, 50, 0);
        x.post(6, 50, 1);
        Edges.due("more CELLS", x.posts(1, 0), 64);
        Edges.due("more CELLS", x.posts(1, 2), 9);
        x.radar(0, 50, 1, 0);
        x.blind(0, 50, true);
        Edges.due("such CELLS are as many: the least set", x.posts(1, 0), 2);
        Edges.due("such CELLS", x.posts(1, 2), 1);
        StormOffice y = new StormOffice();
        y.land(50, 0, 10, 0);
        y.land(11, 0, 11, 0);
        y.post(0, 50, 5);
        y.post(1, 11, 0);
        Edges.due("PEOPLE count before CELLS", y.posts(1, 0), 2);
        Edges.words(34, "then the least set as a number");
        for (int low = 0; low < 7; low++) {
            StormOffice z = new StormOffice();
            z.post(low, 0, 0);
            z.post(low + 1, 50, 0);
            Edges.due("POSTS " + low + " and " + (low + 1), z.posts(1, 0), 1 << low);
        }
        StormOffice z = new StormOffice();
        for (int p = 0; p < 8; p++) z.post(p, 2 * p + 12 * (p / 6), 0);
        for (int k = 0; k <= 8; k++) Edges.due("all alike, " + k, z.posts(k, 0), (1 << k) - 1);
        z.land(14 + 12, 0, 1, 0);
        Edges.due("one is better: with the least of the others", z.posts(3, 0), 128 + 3);
    }
}
