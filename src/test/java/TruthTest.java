/** Promises 28 to 32: THE TRUTH, SAFE, FOUND, JUDGED, ENTRIES. */
public final class TruthTest {
    public static void main(String[] args) {
        wrong();
        safe();
        sirens();
        heeding();
        found();
        judged();
        entries();
        Due.finish();
    }

    private static void wrong() {
        StormOffice x = new StormOffice();
        x.minutes(5);
        int[][] truths = {{-1, 0}, {6, 0}, {0, -2}, {0, 96}};
        for (int[] w : truths) Due.due("Promise 28: wrong", x.truth(w[0], w[1]), false);
        Due.due("Promise 28: NOW", x.truth(5, 95), true);
        Due.due("Promise 28: not told", x.truth(4, -1), true);
        int[][] safes = {{-1, 0}, {6, 0}, {0, -1}, {0, 96}};
        for (int[] w : safes) Due.due("Promise 29: wrong", x.safe(w[0], w[1]), -1);
        int[][] founds = {{-1, 0}, {0, 6}, {2, 1}, {6, 6}};
        for (int[] w : founds) Due.due("Promise 30: wrong", x.found(w[0], w[1]), -1);
        int[][] entries = {{-1, 0}, {8, 0}, {0, -1}, {0, 3}};
        for (int[] w : entries) Due.due("Promise 32: wrong", x.entries(w[0], w[1]), -1);
    }

    private static void safe() {
        StormOffice x = new StormOffice();
        x.land(50, 3, 200, 2);
        x.minutes(10);
        x.warn(3, 20);
        x.minutes(30);
        Due.due("Promise 29: ahead of it", x.safe(9, 50), 0);
        Due.due("Promise 29: not yet", x.safe(16, 50), 0);
        Due.due("Promise 29: heard 5 later, 2 to the shelter", x.safe(17, 50), 200);
        Due.due("Promise 29: to its end", x.safe(29, 50), 200);
        Due.due("Promise 29: it is there no more", x.safe(30, 50), 0);
        x.land(51, 2, 100, 0);
        Due.due("Promise 29: another COUNTY", x.safe(20, 51), 0);
        x.land(50, 3, 70, 0);
        Due.due("Promise 29: SHELTERS and PEOPLE as told now", x.safe(15, 50), 70);
    }

    private static void sirens() {
        StormOffice x = new StormOffice();
        for (int c = 0; c < 96; c++) x.land(c, 0, 10, 0);
        x.siren(50, true);
        x.warn(0, 10);
        x.siren(50, false);
        x.siren(0, true);
        for (int c = 0; c < 96; c++) {
            boolean beside = Math.abs(c % 12 - 2) <= 1 && Math.abs(c / 12 - 4) <= 1;
            Due.due("Promise 29: siren of its beginning, cell " + c, x.safe(0, c), beside ? 10 : 0);
        }
        x.minutes(5);
        Due.due("Promise 29: heard later", x.safe(4, 0), 0);
        Due.due("Promise 29: heard later", x.safe(5, 0), 10);
        x.warn(0, 10);
        Due.due("Promise 29: made longer, it keeps its beginning", x.safe(5, 0), 10);
        Due.due("Promise 29: made longer, it keeps its beginning", x.safe(0, 0), 0);
        x.lift(0);
        x.warn(0, 10);
        Due.due("Promise 29: a new beginning", x.safe(5, 0), 10);
        Due.due("Promise 29: a new beginning", x.safe(5, 50), 0);
        Due.due("Promise 29: the SIRENS of the earlier one", x.safe(0, 50), 10);
        Due.due("Promise 29: the SIRENS of the earlier one", x.safe(0, 0), 0);
    }

    private static void heeding() {
        StormOffice x = new StormOffice();
        x.land(0, 1, 999, 0);
        x.siren(0, true);
        x.warn(1, 1);
        x.minutes(1);
        x.judge();
        Due.due("Promise 31: they lose 10", x.asks(1, 7), 90);
        x.warn(1, 5);
        Due.due("Promise 29: downwards", x.safe(1, 0), 899);
        Due.due("Promise 26: its EARS", x.warning(1, 3), 90);
        x.truth(1, 0);
        x.minutes(5);
        x.judge();
        Due.due("Promise 31: they gain 5", x.asks(1, 7), 95);
        Due.due("Promise 29: EARS of its beginning", x.safe(1, 0), 899);
        Due.due("Promise 29: EARS of its beginning", x.safe(0, 0), 999);
        Due.due("Promise 30: those not safe", x.found(1, 1), 100);
    }

    private static void found() {
        StormOffice x = new StormOffice();
        x.land(1, 0, 10, 0);
        x.land(2, 0, 100, 0);
        x.minutes(6);
        int[] path = {1, 1, 2, 1, -1, 1};
        for (int t = 0; t < 6; t++) x.truth(t, path[t]);
        Due.due("Promise 30: at MINUTE 0", x.found(0, 0), 10);
        Due.due("Promise 30: the same CELL", x.found(1, 1), 0);
        Due.due("Promise 30: another CELL", x.found(2, 2), 100);
        Due.due("Promise 30: back", x.found(3, 3), 10);
        Due.due("Promise 30: not told", x.found(4, 4), 0);
        Due.due("Promise 30: behind what is not told", x.found(5, 5), 10);
        Due.due("Promise 30: all", x.found(0, 6), 130);
        x.truth(2, -1);
        Due.due("Promise 30: not told any more", x.found(0, 6), 30);
    }

    private static void judged() {
        StormOffice x = new StormOffice();
        x.land(50, 1, 0, 0);
        x.land(60, 2, 0, 0);
        x.minutes(5);
        x.warn(1, 3);
        x.warn(2, 3);
        x.warn(3, 4);
        x.minutes(3);
        x.truth(4, 50);
        x.truth(8, 50);
        x.truth(7, 60);
        Due.due("Promise 31: those that ENDED by NOW", x.judge(), 2);
        Due.due("Promise 26: FALSE: ahead and behind of it", x.warning(0, 4), 2);
        Due.due("Promise 26: RIGHT: its last MINUTE", x.warning(1, 4), 1);
        Due.due("Promise 26: not JUDGED", x.warning(2, 4), 0);
        Due.due("Promise 22: ears", x.asks(1, 7), 90);
        Due.due("Promise 22: 100 at most", x.asks(2, 7), 100);
        Due.due("Promise 27: JUDGED", x.look(4), 2);
        Due.due("Promise 27: FALSE", x.look(5), 1);
        x.truth(5, 50);
        Due.due("Promise 31: not twice", x.judge(), 0);
        Due.due("Promise 26: stays", x.warning(0, 4), 2);
        x.lift(3);
        Due.due("Promise 31: lifted", x.judge(), 1);
        x.warn(1, 1);
        x.minutes(1);
        x.warn(1, 1);
        x.truth(9, 50);
        x.truth(8, -1);
        x.minutes(1);
        Due.due("Promise 31: two", x.judge(), 2);
        Due.due("Promise 31: in their order", x.asks(1, 7), 85);
        StormOffice y = new StormOffice();
        y.warn(0, 1);
        y.minutes(1);
        y.warn(0, 1);
        y.minutes(1);
        y.truth(0, 0);
        Due.due("Promise 31: two", y.judge(), 2);
        Due.due("Promise 31: 100 at most comes first, then the loss", y.asks(0, 7), 90);
        y.warn(0, 5);
        y.lift(0);
        y.truth(2, 0);
        Due.due("Promise 31: it was never there", y.judge(), 1);
        Due.due("Promise 31: it was never there", y.warning(2, 4), 2);
    }

    private static void entries() {
        StormOffice x = new StormOffice();
        for (int c = 0; c < 12; c++) x.land(c, 1, 0, 0);
        x.minutes(2);
        x.warn(1, 4);
        x.minutes(8);
        int[] path = {0, 1, 50, 2, 3, -1, 4, 50, 5, -1, 6};
        for (int t = 0; t < path.length; t++) x.truth(t, path[t]);
        Due.due("Promise 32: how many", x.entries(1, 0), 5);
        Due.due("Promise 32: MISSED ones: 0, 6, 8, 10", x.entries(1, 1), 4);
        Due.due("Promise 32: LEAD of the one at 3", x.entries(1, 2), 1);
        Due.due("Promise 32: the other COUNTY: 2 and 7", x.entries(0, 0), 2);
        Due.due("Promise 32: the other COUNTY", x.entries(0, 1), 2);
        Due.due("Promise 32: the other COUNTY", x.entries(0, 2), 0);
        x.truth(5, 50);
        x.truth(4, 50);
        x.truth(5, 7);
        Due.due("Promise 32: LEADS of 3 and 5", x.entries(1, 2), 4);
        x.land(2, 0, 0, 0);
        Due.due("Promise 32: the land as told now", x.entries(1, 2), 3);
        Due.due("Promise 32: none there", x.entries(7, 0), 0);
    }
}
