/** Promises 1 to 7: a new object, the land, sirens, the storm, radars. */
public final class LandTest {
    public static void main(String[] args) {
        newObject();
        land();
        siren();
        storm();
        radar();
        blind();
        Due.finish();
    }

    private static void newObject() {
        StormOffice x = new StormOffice();
        Due.due("The constants: NONE", StormOffice.NONE, -1);
        for (int c = 0; c < 96; c++) {
            Due.due("Promise 1: COUNTY", x.of(c, 0), 0);
            Due.due("Promise 1: PEOPLE", x.of(c, 1), 0);
            Due.due("Promise 1: SHELTERS", x.of(c, 2), 10);
            Due.due("Promise 1: SIREN", x.of(c, 3), 0);
            Due.due("Promise 1: RADARS", x.of(c, 4), 0);
        }
        for (int what = 0; what <= 5; what++) Due.due("Promise 1: look", x.look(what), 0);
        for (int county = 0; county < 8; county++) {
            Due.due("Promise 1: ears", x.asks(county, 7), 100);
            Due.due("Promise 1: line", x.asks(county, 9), -1);
        }
        Due.due("Promise 1: fault", x.fault(0), 0);
        Due.due("Promise 1: fault's place", x.fault(1), -1);
        Due.due("Promise 1: minutes without rules", x.minutes(60), 60);
        Due.due("Promise 1: no warnings", x.look(2), 0);
        Due.rules(x, "warn 5 when 1=1;");
        x.minutes(1);
        Due.due("Promise 1: not ON", x.look(2), 0);
    }

    private static void land() {
        StormOffice x = new StormOffice();
        Due.due("Promise 2: all most", x.land(95, 7, 999, 30), true);
        Due.due("Promise 2: all least", x.land(0, 0, 0, 0), true);
        Due.due("Promise 2: county", x.of(95, 0), 7);
        Due.due("Promise 2: people", x.of(95, 1), 999);
        Due.due("Promise 2: shelter", x.of(95, 2), 30);
        Due.due("Promise 2: shelter 0", x.of(0, 2), 0);
        int[][] wrong = {{-1, 1, 1, 1}, {96, 1, 1, 1}, {95, -1, 1, 1}, {95, 8, 1, 1}, {95, 1, -1, 1}, {95, 1, 1000, 1},
            {95, 1, 1, -1}, {95, 1, 1, 31}, {Integer.MIN_VALUE, 1, 1, 1}, {Integer.MAX_VALUE, 1, 1, 1}};
        for (int[] w : wrong) Due.due("Promise 2: wrong", x.land(w[0], w[1], w[2], w[3]), false);
        Due.due("Promise 2: nothing was done", x.of(95, 0) + x.of(95, 1) + x.of(95, 2), 7 + 999 + 30);
        Due.due("Promise 2: people of its county", x.asks(7, 5), 999);
        x.land(95, 3, 10, 1);
        Due.due("Promise 2: gone from the old county", x.asks(7, 5), 0);
        Due.due("Promise 2: in the new county", x.asks(3, 5), 10);
        Due.due("Promise 7: of a wrong cell", x.of(-1, 0), -1);
        Due.due("Promise 7: of a wrong cell", x.of(96, 4), -1);
        Due.due("Promise 7: wrong what", x.of(0, -1), -1);
        Due.due("Promise 7: wrong what", x.of(0, 5), -1);
    }

    private static void siren() {
        StormOffice x = new StormOffice();
        Due.due("Promise 3: siren", x.siren(50, true), true);
        Due.due("Promise 3: siren again", x.siren(50, true), true);
        Due.due("Promise 3: it is there", x.of(50, 3), 1);
        Due.due("Promise 3: not beside", x.of(51, 3), 0);
        Due.due("Promise 3: gone", x.siren(50, false), true);
        Due.due("Promise 3: gone again", x.siren(50, false), true);
        Due.due("Promise 3: it is gone", x.of(50, 3), 0);
        Due.due("Promise 3: wrong", x.siren(-1, true), false);
        Due.due("Promise 3: wrong", x.siren(96, true), false);
    }

    private static void storm() {
        StormOffice x = new StormOffice();
        int[][] wrong = {{0, 0}, {-1, 0}, {512, 0}, {1, -1}, {1, 720}};
        for (int[] w : wrong) Due.due("Promise 4: wrong", x.storm(w[0], w[1]), false);
        Due.due("Promise 4: nothing was done", x.count(0, 0, 0) + x.count(1, 0, 0), 192);
        // MOVE 0 goes by -1 and -1: 12 x 8 CELLS come to 11 x 7, then to 10 x 6.
        Due.due("Promise 4: storm", x.storm(1, 2), true);
        Due.due("Promise 4: ahead of THE START", x.count(1, 0, 0), 0);
        Due.due("Promise 4: THE START", x.count(2, 0, 0), 96);
        Due.due("Promise 4: one later", x.count(3, 0, 0), 77);
        Due.due("Promise 4: two later", x.count(4, 0, 0), 60);
        Due.due("Promise 4: the corner", x.maybe(3, 0, 0), 1);
        Due.due("Promise 4: the far edge", x.maybe(3, 0, 11), 0);
        Due.due("Promise 4: all gone", x.count(10, 0, 0), 0);
        Due.due("Promise 4: last start", x.storm(511, 719), true);
        Due.due("Promise 4: last start", x.count(719, 0, 0) - x.count(718, 0, 0), 96);
        // each MOVE alone, from the middle
        for (int b = 0; b < 9; b++) {
            StormOffice y = new StormOffice();
            y.word(0, 50, 0);
            y.storm(1 << b, 0);
            Due.due("Promise 4: move " + b, y.count(1, 0, 0), 1);
            Due.due("Promise 4: move " + b, y.maybe(1, 0, 50 + b % 3 - 1 + 12 * (b / 3 - 1)), 1);
        }
    }

    private static void radar() {
        StormOffice x = new StormOffice();
        int[][] wrong = {{-1, 0, 0, 0}, {3, 0, 0, 0}, {0, -1, 0, 0}, {0, 96, 0, 0}, {0, 0, -1, 0}, {0, 0, 12, 0},
            {0, 0, 0, -1}, {0, 0, 0, 4}};
        for (int[] w : wrong) Due.due("Promise 5: wrong", x.radar(w[0], w[1], w[2], w[3]), false);
        Due.due("Promise 5: none there", x.of(0, 4), 0);
        Due.due("Promise 5: radar", x.radar(1, 13, 1, 3), true);
        for (int c = 0; c < 96; c++) {
            Due.due("Promise 5: sees " + c, x.of(c, 4), c % 12 <= 2 && c / 12 <= 2 ? 2 : 0);
        }
        x.blind(1, 0, true);
        Due.due("Promise 6: blind", x.of(0, 4), 0);
        Due.due("Promise 5: in place", x.radar(1, 0, 0, 0), true);
        Due.due("Promise 5: nothing blind for it", x.of(0, 4), 2);
        Due.due("Promise 5: the old range is gone", x.of(1, 4), 0);
        Due.due("Promise 5: the widest", x.radar(2, 0, 11, 0), true);
        Due.due("Promise 5: the widest", x.of(95, 4), 4);
        x.radar(0, 0, 0, 0);
        Due.due("Promise 7: a set", x.of(0, 4), 7);
    }

    private static void blind() {
        StormOffice x = new StormOffice();
        Due.due("Promise 6: no radar", x.blind(0, 5, true), false);
        x.radar(0, 0, 2, 0);
        Due.due("Promise 6: was so", x.blind(0, 5, false), false);
        Due.due("Promise 6: blind where it does not reach", x.blind(0, 95, true), true);
        Due.due("Promise 6: blind", x.blind(0, 1, true), true);
        Due.due("Promise 6: was so", x.blind(0, 1, true), false);
        Due.due("Promise 6: not seen", x.of(1, 4), 0);
        Due.due("Promise 6: beside seen", x.of(2, 4), 1);
        Due.due("Promise 6: sees again", x.blind(0, 1, false), true);
        Due.due("Promise 6: sees again", x.of(1, 4), 1);
        int[][] wrong = {{-1, 0}, {1, 0}, {3, 0}, {0, -1}, {0, 96}};
        for (int[] w : wrong) Due.due("Promise 6: wrong", x.blind(w[0], w[1], true), false);
    }
}
