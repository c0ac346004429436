/** Promises 8 to 13: tellings, MAYBE, AFTER, QUARREL. */
public final class HeartTest {
    public static void main(String[] args) {
        wrongTellings();
        seen();
        bare();
        word();
        asKnown();
        after();
        quarrel();
        limit();
        Due.finish();
    }

    private static void wrongTellings() {
        StormOffice x = new StormOffice();
        x.radar(1, 0, 3, 1);
        x.minutes(5);
        int[][] wrongSeen = {{0, 0, 0}, {-1, 0, 0}, {3, 0, 0}, {1, -1, 0}, {1, 6, 0}, {1, 0, -1}, {1, 0, 96}};
        for (int[] w : wrongSeen) Due.due("Promise 8: wrong", x.seen(w[0], w[1], w[2]), false);
        int[][] wrongBare = {{0, 0}, {-1, 0}, {3, 0}, {1, -1}, {1, 6}};
        for (int[] w : wrongBare) Due.due("Promise 9: wrong", x.bare(w[0], w[1]), false);
        int[][] wrongWord = {{-1, 0, 0}, {6, 0, 0}, {0, -1, 0}, {0, 96, 0}, {0, 0, -2}, {0, 0, 6}};
        for (int[] w : wrongWord) Due.due("Promise 10: wrong", x.word(w[0], w[1], w[2]), false);
        Due.due("Promise 27: nothing told", x.look(1), 0);
        int[][] wrongMaybe = {{-1, 0, 0}, {720, 0, 0}, {0, -1, 0}, {0, 6, 0}, {0, 0, -1}, {0, 0, 96}};
        for (int[] w : wrongMaybe) Due.due("Promise 11: wrong", x.maybe(w[0], w[1], w[2]), -1);
        int[][] wrongCount = {{-1, 0, 0}, {720, 0, 0}, {0, -1, 0}, {0, 6, 0}, {0, 0, -1}, {0, 0, 2}, {0, 0, 9}, {0, 0, 106}};
        for (int[] w : wrongCount) Due.due("Promise 12: wrong", x.count(w[0], w[1], w[2]), -1);
        Due.due("Promise 13: wrong", x.quarrel(-1), -1);
        Due.due("Promise 13: wrong", x.quarrel(6), -1);
        Due.due("Promise 8: of NOW", x.seen(1, 5, 95), true);
        Due.due("Promise 9: of 0", x.bare(1, 0), true);
        Due.due("Promise 10: of NOW", x.word(5, 95, 5), true);
        Due.due("Promise 27: told", x.look(1), 3);
    }

    private static void seen() {
        StormOffice x = new StormOffice();
        x.radar(0, 0, 0, 2);
        Due.due("Promise 8: where it does not see", x.seen(0, 0, 50), true);
        Due.due("Promise 8: OFF 2", x.count(0, 0, 0), 25);
        Due.due("Promise 8: edge", x.maybe(0, 0, 50 + 24 + 2), 1);
        Due.due("Promise 8: beyond", x.maybe(0, 0, 53), 0);
        x.radar(0, 0, 0, 0);
        Due.due("Promise 8: OFF as it is told when asked", x.count(0, 0, 0), 1);
        x.radar(1, 0, 0, 3);
        x.seen(1, 0, 50);
        Due.due("Promise 8: both allow", x.count(0, 0, 0), 1);
    }

    private static void bare() {
        StormOffice x = new StormOffice();
        x.radar(0, 0, 1, 0);
        x.bare(0, 0);
        Due.due("Promise 9: bare", x.count(0, 0, 0), 92);
        x.blind(0, 1, true);
        Due.due("Promise 9: where it is blind", x.maybe(0, 0, 1), 1);
        Due.due("Promise 9: where it is blind", x.count(0, 0, 0), 93);
        x.blind(0, 1, false);
        Due.due("Promise 9: blind no more", x.count(0, 0, 0), 92);
        x.radar(0, 95, 0, 0);
        Due.due("Promise 9: the radar in place of it", x.maybe(0, 0, 95), 0);
        Due.due("Promise 9: the radar in place of it", x.count(0, 0, 0), 95);
    }

    private static void word() {
        StormOffice x = new StormOffice();
        Due.due("Promise 10: unsure", x.word(0, 0, -1), true);
        Due.due("Promise 10: by which nothing is so", x.count(0, 0, 0), 96);
        Due.due("Promise 10: counted", x.look(1), 1);
        Due.due("Promise 10: sure", x.word(0, 0, 5), true);
        Due.due("Promise 10: no farther than 5", x.count(0, 0, 0), 36);
        x.word(0, 3, 0);
        Due.due("Promise 10: doubt 0", x.count(0, 0, 0), 1);
        Due.due("Promise 11: all MOVES", x.count(1, 0, 0), 6);
        Due.due("Promise 11: all MOVES", x.count(2, 0, 0), 15);
        Due.due("Promise 11: one MOVE away", x.maybe(1, 0, 16), 1);
        Due.due("Promise 11: two MOVES away", x.maybe(1, 0, 5), 0);
    }

    private static void asKnown() {
        StormOffice x = new StormOffice();
        x.storm(16, 0);
        x.minutes(2);
        x.word(0, 50, 1);
        x.minutes(2);
        x.word(1, 50, 0);
        Due.due("Promise 11: known at 1", x.count(0, 1, 0), 96);
        Due.due("Promise 11: known at 2", x.count(0, 2, 0), 9);
        Due.due("Promise 11: known at 2, later", x.count(700, 2, 0), 9);
        Due.due("Promise 11: known at 3", x.count(1, 3, 0), 9);
        Due.due("Promise 11: known at 4", x.count(1, 4, 0), 1);
        Due.due("Promise 11: known at 4, ahead", x.count(0, 4, 0), 9);
        Due.due("Promise 11: back at 2", x.maybe(0, 2, 51), 1);
        x.storm(16, 1);
        Due.due("Promise 11: tellings ahead of THE START", x.count(1, 2, 0), 96);
        Due.due("Promise 11: none ahead of THE START", x.maybe(0, 4, 50), 0);
        Due.due("Promise 11: of THE START", x.count(1, 4, 0), 1);
    }

    private static void after() {
        StormOffice x = new StormOffice();
        x.storm(1 << 5 | 1 << 4, 0);
        x.word(0, 0, 3);
        x.minutes(4);
        x.word(3, 6, 0);
        x.word(4, 0, -1);
        // From x 0 .. 3 in row 0 to x 6 at 3: only from x 3, by going each time.
        Due.due("Promise 12: MAYBE", x.count(0, 4, 0), 16);
        Due.due("Promise 12: AFTER", x.count(0, 4, 1), 1);
        Due.due("Promise 12: AFTER is cell 3", x.count(0, 4, 13), 1);
        Due.due("Promise 12: AFTER is not cell 2", x.count(0, 4, 12), 0);
        Due.due("Promise 12: at 1 is cell 4", x.count(1, 4, 14), 1);
        Due.due("Promise 12: as known before", x.count(0, 3, 1), 16);
        Due.due("Promise 12: the last MINUTE", x.count(3, 4, 1), 1);
        Due.due("Promise 12: an unsure WORD is no last MINUTE", x.count(4, 4, 1), 2);
        Due.due("Promise 12: later as MAYBE", x.count(9, 4, 1), 6);
        Due.due("Promise 12: cell 95", x.count(9, 4, 105), 0);
        StormOffice y = new StormOffice();
        y.storm(32, 0);
        y.minutes(3);
        y.radar(0, 0, 0, 0);
        y.bare(0, 3);
        Due.due("Promise 12: a BARE is a last MINUTE", y.count(0, 3, 1), 9 * 8);
        Due.due("Promise 12: MAYBE of it", y.count(0, 3, 0), 96);
        Due.due("Promise 12: not yet known", y.count(0, 2, 1), 96);
        y.storm(32, 2);
        Due.due("Promise 12: ahead of THE START", y.count(1, 3, 1), 0);
        Due.due("Promise 12: at THE START", y.count(2, 3, 1), 11 * 8);
        for (int b = 0; b < 9; b++) {
            StormOffice z = new StormOffice();
            z.storm(1 << b, 0);
            z.minutes(1);
            z.word(1, 50, 0);
            Due.due("Promise 12: back by MOVE " + b, z.count(0, 1, 1), 1);
            Due.due("Promise 12: back by MOVE " + b, z.count(0, 1, 10 + 50 - (b % 3 - 1) - 12 * (b / 3 - 1)), 1);
        }
    }

    private static void quarrel() {
        StormOffice x = new StormOffice();
        x.storm(16, 1);
        x.minutes(5);
        x.word(3, 0, 1);
        x.word(4, 50, 1);
        x.word(0, 9, 0);
        x.word(0, 90, 0);
        Due.due("Promise 13: ahead of THE START it is no quarrel", x.quarrel(5), 4);
        Due.due("Promise 13: as known earlier", x.quarrel(4), -1);
        x.storm(16, 5);
        Due.due("Promise 13: from THE START on", x.quarrel(5), -1);
        x.storm(16, 6);
        Due.due("Promise 13: THE START is to come", x.quarrel(5), -1);
        StormOffice y = new StormOffice();
        y.storm(1, 0);
        y.minutes(9);
        Due.due("Promise 13: gone beyond the land", y.quarrel(9), 8);
        Due.due("Promise 13: up to k", y.quarrel(7), -1);
    }

    private static void limit() {
        StormOffice x = new StormOffice();
        x.radar(0, 0, 0, 3);
        for (int i = 0; i < 100; i++) {
            Due.due("Promise 8: up to 300", x.seen(0, 0, 0), true);
            Due.due("Promise 9: up to 300", x.bare(0, 0), true);
            Due.due("Promise 10: up to 300", x.word(0, 0, -1), true);
        }
        Due.due("Promise 8: no more", x.seen(0, 0, 0), false);
        Due.due("Promise 9: no more", x.bare(0, 0), false);
        Due.due("Promise 10: no more", x.word(0, 0, -1), false);
        Due.due("Promise 27: 300", x.look(1), 300);
        Due.due("Promise 12: all of them hold", x.count(0, 0, 0), 15);
        Due.due("Promise 22: asked of all", x.asks(0, 0), 100);
    }
}
