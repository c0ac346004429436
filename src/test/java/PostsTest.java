/** Promises 33 and 34: POSTS and the best of them. */
public final class PostsTest {
    public static void main(String[] args) {
        post();
        best();
        ties();
        Due.finish();
    }

    private static void post() {
        StormOffice x = new StormOffice();
        int[][] wrong = {{-1, 0, 0}, {8, 0, 0}, {0, -1, 0}, {0, 96, 0}, {0, 0, -1}, {0, 0, 6}};
        for (int[] w : wrong) Due.due("Promise 33: wrong", x.post(w[0], w[1], w[2]), false);
        Due.due("Promise 34: none told", x.posts(1, 0), -1);
        Due.due("Promise 34: none of none", x.posts(0, 0), 0);
        Due.due("Promise 33: post", x.post(7, 95, 5), true);
        Due.due("Promise 34: the widest", x.posts(1, 2), 36);
        Due.due("Promise 34: its set", x.posts(1, 0), 128);
        Due.due("Promise 33: in place", x.post(7, 0, 0), true);
        Due.due("Promise 34: in place", x.posts(1, 2), 1);
        Due.due("Promise 34: not so many", x.posts(2, 0), -1);
        Due.due("Promise 34: below 0", x.posts(-1, 0), -1);
        Due.due("Promise 34: wrong what", x.posts(1, -1), -1);
        Due.due("Promise 34: wrong what", x.posts(1, 3), -1);
        for (int p = 0; p < 8; p++) x.post(p, p, 0);
        Due.due("Promise 34: all", x.posts(8, 0), 255);
        Due.due("Promise 34: all", x.posts(8, 2), 8);
        Due.due("Promise 34: nine", x.posts(9, 0), -1);
    }

    private static void best() {
        StormOffice x = new StormOffice();
        x.land(0, 0, 50, 0);
        x.land(2, 0, 60, 0);
        x.land(40, 0, 55, 0);
        x.post(0, 0, 0);
        x.post(1, 1, 1);
        x.post(2, 2, 0);
        x.post(4, 40, 0);
        Due.due("Promise 34: one", x.posts(1, 0), 2);
        Due.due("Promise 34: one", x.posts(1, 1), 110);
        Due.due("Promise 34: one: CELLS", x.posts(1, 2), 6);
        Due.due("Promise 34: two, none counted twice", x.posts(2, 0), 2 + 16);
        Due.due("Promise 34: two", x.posts(2, 1), 165);
        x.radar(0, 2, 0, 0);
        Due.due("Promise 34: a RADAR SEES it", x.posts(1, 0), 16);
        Due.due("Promise 34: a RADAR SEES it", x.posts(1, 1), 55);
        x.blind(0, 2, true);
        Due.due("Promise 34: BLIND for it", x.posts(1, 0), 2);
        x.radar(1, 40, 0, 0);
        Due.due("Promise 34: two RADARS", x.posts(2, 1), 110);
    }

    private static void ties() {
        StormOffice x = new StormOffice();
        x.land(50, 0, 10, 0);
        x.post(0, 0, 0);
        x.post(3, 50, 0);
        x.post(5, 50, 1);
        x.post(6, 50, 1);
        Due.due("Promise 34: the most CELLS, then the least set", x.posts(1, 0), 32);
        Due.due("Promise 34: the most CELLS of two", x.posts(2, 0), 1 + 32);
        Due.due("Promise 34: the most CELLS of two", x.posts(2, 2), 10);
        Due.due("Promise 34: three", x.posts(3, 0), 1 + 8 + 32);
        Due.due("Promise 34: none", x.posts(0, 0), 0);
        Due.due("Promise 34: none", x.posts(0, 1), 0);
        Due.due("Promise 34: none", x.posts(0, 2), 0);
    }
}
