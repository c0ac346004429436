/** The boundary cases of promises 28 to 32: THE TRUTH, SAFE, FOUND, JUDGED, ENTRIES. */
public final class TruthEdgesTest {
    private static final int NOW = Edges.BUSY_NOW;

    public static void main(String[] args) {
        truth();
        safe();
        heard();
        sirensOfItsBeginning();
        shelters();
        whileItIsThere();
        heeding();
        earsOfItsBeginning();
        found();
        foundCells();
        judge();
        right();
        ears();
        inTheirOrder();
        entries();
        lead();
        Due.finish();
    }

    private static void truth() {
        Edges.words(28, "at MINUTE t (up to NOW) is CELL c (-1: not told): true; false, and nothing is done, if one can't be");
        Edges.bounds("t 0 .. NOW", 0, NOW, Edges.BUSY, (x, v) -> Edges.is(x.truth(v, 40)), 0, 1);
        Edges.bounds("t 0 .. NOW, not told", 0, NOW, Edges.BUSY, (x, v) -> Edges.is(x.truth(v, -1)), 0, 1);
        Edges.bounds("CELL -1 .. 95", -1, 95, Edges.BUSY, (x, v) -> Edges.is(x.truth(22, v)), 0, 1);
        Edges.bounds("t 0 alone", 0, 0, Edges.NEW, (x, v) -> Edges.is(x.truth(v, 40)), 0, 1);
        StormOffice x = new StormOffice();
        x.land(0, 1, 5, 0);
        x.land(95, 2, 7, 0);
        Edges.until(x, 719);
        Edges.due("the first MINUTE", x.truth(0, 0), true);
        Edges.due("the last MINUTE", x.truth(719, 95), true);
        Edges.due("never 720", x.truth(720, 95), false);
        Edges.due("both are there", x.found(0, 719), 12);
        Edges.due("told anew", x.truth(0, 95), true);
        Edges.due("told anew", x.found(0, 0), 7);
        Edges.due("told anew, in another COUNTY", x.entries(2, 0), 2);
        Edges.due("not told any more", x.truth(0, -1), true);
        Edges.due("not told any more", x.found(0, 719), 7);
        Edges.due("not told, again", x.truth(0, -1), true);
    }

    private static void safe() {
        Edges.words(29, "How many of CELL c's PEOPLE are SAFE at MINUTE t (up to NOW); NONE if one can't be");
        Edges.Story sure = x -> {
            for (int c = 0; c < 96; c++) x.land(c, 0, 9, 0);
            for (int c = 0; c < 96; c += 3) x.siren(c, true);
            for (int c = 1; c < 96; c += 3) x.siren(c, true);
            x.warn(0, 60);
            x.minutes(NOW);
        };
        Edges.bounds("t 0 .. NOW", 0, NOW, sure, (x, v) -> x.safe(v, 50), -1, 9);
        Edges.bounds("CELL 0 .. 95", 0, 95, sure, (x, v) -> x.safe(5, v), -1, 9);
        Edges.beyond("t 0 .. NOW", 0, NOW, Edges.BUSY, (x, v) -> x.safe(v, 8), -1);
        Edges.beyond("CELL 0 .. 95", 0, 95, Edges.BUSY, (x, v) -> x.safe(NOW, v), -1);
    }

    /** PEOPLE 100 without a way to SHELTERS, so that they are SAFE just when they hear. */
    private static int hearsAt(int siren, int c) {
        StormOffice x = new StormOffice();
        x.land(c, 0, 100, 0);
        x.siren(siren, true);
        x.minutes(3);
        x.warn(0, 20);
        x.minutes(15);
        for (int t = 0; t <= 15; t++) if (x.safe(t, c) > 0) return t;
        return -1;
    }

    private static void heard() {
        Edges.words(29, "HEARD at its beginning, if there was a SIREN there or in a CELL beside (one far), else 5 MINUTES later");
        int[] one = {53, 40, 41, 42, 52, 54, 64, 65, 66};
        for (int c : one) Edges.due("SIREN at 53, CELL " + c, hearsAt(53, c), 3);
        int[] two = {27, 28, 29, 30, 31, 39, 43, 51, 55, 63, 67, 75, 76, 77, 78, 79, 0, 95};
        for (int c : two) Edges.due("SIREN at 53, CELL " + c, hearsAt(53, c), 8);
        Edges.due("around the row's end, SIREN at 11", hearsAt(11, 12), 8);
        Edges.due("around the row's end, SIREN at 12", hearsAt(12, 11), 8);
        Edges.due("around the land's halves, SIREN at 47", hearsAt(47, 48), 8);
        Edges.due("between the land's halves, SIREN at 40", hearsAt(40, 52), 3);
        Edges.due("between the land's halves, SIREN at 52", hearsAt(52, 40), 3);
        Edges.due("the corner 0", hearsAt(13, 0), 3);
        Edges.due("the corner 95", hearsAt(82, 95), 3);
        Edges.due("the corner 11", hearsAt(22, 11), 3);
        Edges.due("the corner 84", hearsAt(73, 84), 3);
        StormOffice x = new StormOffice();
        x.land(5, 0, 100, 0);
        x.land(6, 1, 100, 0);
        x.siren(6, true);
        x.warn(0, 9);
        Edges.due("a SIREN of another COUNTY beside", x.safe(0, 5), 100);
        Edges.due("no WARNING of that COUNTY", x.safe(0, 6), 0);
    }

    private static void sirensOfItsBeginning() {
        Edges.words(29, "A WARNING keeps the SIRENS of its beginning");
        StormOffice x = new StormOffice();
        x.land(5, 0, 100, 0);
        x.minutes(1);
        x.siren(5, true);
        x.warn(0, 9);
        x.siren(5, false);
        Edges.due("gone behind its beginning", x.safe(1, 5), 100);
        x.minutes(1);
        x.warn(0, 9);
        Edges.due("made longer without one", x.safe(1, 5), 100);
        StormOffice y = new StormOffice();
        y.land(5, 0, 100, 0);
        y.warn(0, 9);
        y.siren(5, true);
        y.minutes(4);
        y.warn(0, 9);
        Edges.due("told behind its beginning", y.safe(4, 5), 0);
        y.minutes(1);
        Edges.due("5 MINUTES later", y.safe(5, 5), 100);
        y.lift(0);
        y.warn(0, 9);
        y.siren(5, false);
        Edges.due("a new one has it", y.safe(5, 5), 100);
    }

    private static void shelters() {
        Edges.words(29, "they are SAFE from SHELTERS' minutes behind hearing on");
        for (int shelter : new int[] {0, 1, 2, 15, 29, 30}) {
            for (boolean siren : new boolean[] {true, false}) {
                StormOffice x = new StormOffice();
                x.land(5, 0, 100, shelter);
                x.siren(5, siren);
                x.minutes(2);
                x.warn(0, 60);
                x.minutes(50);
                int from = 2 + (siren ? 0 : 5) + shelter;
                String name = "SHELTERS in " + shelter + (siren ? " with a SIREN" : " without a SIREN");
                Edges.due(name + ", ahead of it", x.safe(from - 1, 5), 0);
                Edges.due(name + ", from then on", x.safe(from, 5), 100);
                Edges.due(name + ", later", x.safe(from + 1, 5), 100);
            }
        }
        StormOffice x = new StormOffice();
        x.land(5, 0, 100, 1);
        x.siren(5, true);
        x.warn(0, 60);
        x.minutes(1);
        Edges.due("at NOW", x.safe(1, 5), 100);
        x.land(5, 0, 100, 2);
        Edges.due("SHELTERS as they are told", x.safe(1, 5), 0);
        x.land(5, 0, 60, 1);
        Edges.due("PEOPLE as they are told", x.safe(1, 5), 60);
        x.land(5, 1, 60, 1);
        Edges.due("the COUNTY as it is told", x.safe(1, 5), 0);
    }

    private static void whileItIsThere() {
        Edges.words(29, "while it is there");
        StormOffice x = new StormOffice();
        x.land(5, 0, 100, 3);
        x.siren(5, true);
        x.minutes(10);
        x.warn(0, 4);
        x.minutes(10);
        int[] due = {0, 0, 0, 100, 0, 0};
        for (int i = 0; i < 6; i++) Edges.due("at " + (10 + i), x.safe(10 + i, 5), due[i]);
        x.land(5, 0, 100, 4);
        for (int i = 0; i < 6; i++) Edges.due("it ENDS before SHELTERS are reached, at " + (10 + i), x.safe(10 + i, 5), 0);
        StormOffice y = new StormOffice();
        y.land(5, 0, 100, 3);
        y.siren(5, true);
        y.warn(0, 5);
        y.minutes(5);
        y.warn(0, 5);
        y.minutes(5);
        int[] again = {0, 0, 0, 100, 100, 0, 0, 0, 100, 100, 0};
        for (int t = 0; t <= 10; t++) Edges.due("one behind the other, at " + t, y.safe(t, 5), again[t]);
        StormOffice z = new StormOffice();
        z.land(5, 0, 100, 3);
        z.siren(5, true);
        z.warn(0, 5);
        z.minutes(4);
        z.warn(0, 5);
        z.minutes(6);
        int[] longer = {0, 0, 0, 100, 100, 100, 100, 100, 100, 0, 0};
        for (int t = 0; t <= 10; t++) Edges.due("made longer, at " + t, z.safe(t, 5), longer[t]);
        StormOffice w = new StormOffice();
        w.land(5, 0, 100, 0);
        w.siren(5, true);
        w.minutes(2);
        w.warn(0, 5);
        Edges.due("before it is lifted", w.safe(2, 5), 100);
        w.lift(0);
        Edges.due("lifted at its beginning", w.safe(2, 5), 0);
    }

    private static void heeding() {
        Edges.words(29, "HEEDING are PEOPLE times EARS by 100, downwards");
        int[] people = {0, 1, 2, 10, 11, 99, 100, 101, 999};
        int[] at90 = {0, 0, 1, 9, 9, 89, 90, 90, 899};
        int[] at10 = {0, 0, 0, 1, 1, 9, 10, 10, 99};
        for (int i = 0; i < people.length; i++) {
            StormOffice x = new StormOffice();
            x.siren(5, true);
            x.land(5, 0, people[i], 0);
            x.warn(0, 1);
            Edges.due("EARS 100, PEOPLE " + people[i], x.safe(0, 5), people[i]);
            x.minutes(1);
            x.judge();
            x.warn(0, 1);
            Edges.due("EARS 90, PEOPLE " + people[i], x.safe(1, 5), at90[i]);
            for (int t = 2; t <= 11; t++) {
                x.minutes(1);
                x.judge();
                x.warn(0, 1);
            }
            Edges.due("EARS 10", x.asks(0, 7), 10);
            Edges.due("EARS 10, PEOPLE " + people[i], x.safe(11, 5), at10[i]);
        }
    }

    private static void earsOfItsBeginning() {
        Edges.words(29, "A WARNING keeps the EARS of its beginning");
        StormOffice x = new StormOffice();
        x.siren(5, true);
        x.land(5, 0, 100, 0);
        x.warn(0, 1);
        x.minutes(1);
        x.warn(0, 9);
        Edges.due("100 at its beginning", x.warning(1, 3), 100);
        x.judge();
        Edges.due("90 then", x.asks(0, 7), 90);
        Edges.due("it keeps 100", x.warning(1, 3), 100);
        Edges.due("all heed it", x.safe(1, 5), 100);
        x.warn(0, 20);
        Edges.due("made longer, it keeps 100", x.warning(1, 3), 100);
        x.lift(0);
        x.warn(0, 9);
        Edges.due("the next one has 90", x.warning(2, 3), 90);
        Edges.due("90 heed it", x.safe(1, 5), 90);
        Edges.due("another COUNTY has 100", x.asks(1, 7), 100);
    }

    private static void found() {
        Edges.words(30, "FOUND in all MINUTES from a to b (0 <= a <= b, up to NOW); NONE if one can't be");
        Edges.Story told = x -> {
            x.land(5, 0, 10, 0);
            x.minutes(NOW);
            for (int t = 1; t <= NOW; t += 2) x.truth(t, 5);
        };
        Edges.beyond("a 0 .. NOW, b NOW", 0, NOW, told, (x, v) -> x.found(v, NOW), -1);
        Edges.beyond("b 0 .. NOW, a 0", 0, NOW, told, (x, v) -> x.found(0, v), -1);
        Edges.within("a 0 .. NOW, b NOW", 0, NOW, told, (x, v) -> x.found(v, NOW), (x, v) -> v <= 1 ? 120 : 10);
        Edges.within("b 0 .. NOW, a 0", 0, NOW, told, (x, v) -> x.found(0, v), (x, v) -> v == 0 ? 0 : v == 1 ? 10 : v == NOW ? 120 : 110);
        Edges.within("b around a = 7", 6, 8, told, (x, v) -> x.found(7, v), (x, v) -> v < 7 ? -1 : 10);
        Edges.refused("a is b + 1", told, x -> x.found(8, 7), -1);
        Edges.refused("a is NOW, b is 0", told, x -> x.found(NOW, 0), -1);
        Edges.refused("both are beyond NOW", told, x -> x.found(NOW + 1, NOW + 1), -1);
        Edges.refused("both are below 0", told, x -> x.found(-1, -1), -1);
        Edges.beyond("a 0 .. NOW", 0, NOW, Edges.BUSY, (x, v) -> x.found(v, NOW), -1);
        Edges.beyond("b 0 .. NOW", 0, NOW, Edges.BUSY, (x, v) -> x.found(0, v), -1);
        StormOffice x = new StormOffice();
        Edges.due("the first MINUTE alone", x.found(0, 0), 0);
        Edges.due("beyond it", x.found(0, 1), -1);
        Edges.until(x, 719);
        Edges.due("all MINUTES", x.found(0, 719), 0);
        Edges.due("beyond all", x.found(0, 720), -1);
    }

    private static void foundCells() {
        Edges.words(30, "PEOPLE of its CELL that are not SAFE then, if THE TRUTH did not have that CELL at the MINUTE ahead");
        StormOffice x = new StormOffice();
        x.land(5, 0, 10, 0);
        x.land(6, 0, 100, 0);
        x.minutes(9);
        int[] path = {5, 5, 6, 6, 5, -1, 5, 5, -1, 6};
        int[] due = {10, 0, 100, 0, 10, 0, 10, 0, 0, 100};
        for (int t = 0; t <= 9; t++) x.truth(t, path[t]);
        for (int t = 0; t <= 9; t++) Edges.due("at " + t, x.found(t, t), due[t]);
        Edges.due("in all", x.found(0, 9), 230);
        Edges.due("the MINUTE ahead of a counts", x.found(1, 1) + x.found(3, 3), 0);
        x.truth(0, -1);
        Edges.due("the MINUTE ahead is not told any more", x.found(1, 1), 10);
        StormOffice y = new StormOffice();
        y.land(5, 0, 100, 2);
        y.siren(5, true);
        y.warn(0, 1);
        y.minutes(1);
        y.judge();
        y.warn(0, 3);
        y.minutes(9);
        for (int t = 0; t <= 5; t++) {
            y.truth(t, 5);
            if (t > 0) y.truth(t - 1, -1);
            Edges.due("those that are not SAFE at " + t, y.found(0, 9), t == 3 ? 10 : 100);
        }
    }

    private static void judge() {
        Edges.words(31, "WARNINGS that ENDED by NOW and are not JUDGED yet: how many");
        StormOffice x = new StormOffice();
        Edges.due("no WARNING", x.judge(), 0);
        x.warn(0, 5);
        x.warn(1, 6);
        Edges.due("at its beginning", x.judge(), 0);
        x.minutes(4);
        Edges.due("at its last MINUTE", x.judge(), 0);
        Edges.due("not JUDGED", x.warning(0, 4), 0);
        x.minutes(1);
        Edges.due("when it ENDS", x.judge(), 1);
        Edges.due("FALSE", x.warning(0, 4), 2);
        Edges.due("the other is not JUDGED", x.warning(1, 4), 0);
        Edges.due("not JUDGED twice", x.judge(), 0);
        x.minutes(5);
        Edges.due("later than it ENDS", x.judge(), 1);
        Edges.due("JUDGED ones", x.look(4), 2);
        Edges.due("FALSE ones", x.look(5), 2);
        x.warn(2, 60);
        x.lift(2);
        Edges.due("lifted NOW", x.judge(), 1);
        for (int county = 0; county < 8; county++) x.warn(county, 1);
        x.minutes(1);
        Edges.due("eight at once", x.judge(), 8);
        StormOffice y = new StormOffice();
        Due.rules(y, "warn 1 when 1=1;");
        y.on(true);
        y.minutes(25);
        Edges.due("200 at once", y.judge(), 200);
        Edges.due("200 JUDGED", y.look(4), 200);
        Edges.due("200 FALSE", y.look(5), 200);
        Edges.due("the 200th", y.warning(199, 4), 2);
    }

    private static void right() {
        Edges.words(31, "RIGHT, if THE TRUTH has a CELL of the COUNTY at a MINUTE of it; else FALSE");
        int[] kind = {2, 2, 1, 1, 1, 2, 2};
        for (int t = 1; t <= 7; t++) {
            StormOffice x = new StormOffice();
            x.land(50, 3, 0, 0);
            x.minutes(3);
            x.warn(3, 3);
            x.minutes(9);
            x.truth(t, 50);
            Edges.due("there from 3 to 5, THE TRUTH at " + t, x.judge(), 1);
            Edges.due("there from 3 to 5, THE TRUTH at " + t, x.warning(0, 4), kind[t - 1]);
            Edges.due("FALSE ones", x.look(5), kind[t - 1] - 1);
        }
        StormOffice x = new StormOffice();
        x.land(50, 3, 0, 0);
        x.warn(3, 3);
        x.truth(0, 51);
        x.minutes(3);
        x.judge();
        Edges.due("a CELL of another COUNTY", x.warning(0, 4), 2);
        x.truth(0, 50);
        x.judge();
        Edges.due("JUDGED it stays", x.warning(0, 4), 2);
        x.warn(3, 5);
        x.truth(3, 50);
        x.lift(3);
        x.judge();
        Edges.due("lifted at its beginning it has no MINUTE", x.warning(1, 4), 2);
        x.warn(3, 5);
        x.minutes(1);
        x.lift(3);
        x.judge();
        Edges.due("lifted one MINUTE later it has one", x.warning(2, 4), 1);
        x.warn(3, 5);
        x.minutes(5);
        x.land(50, 4, 0, 0);
        x.truth(4, 50);
        x.judge();
        Edges.due("the COUNTY as it is told", x.warning(3, 4), 2);
    }

    private static void ears() {
        Edges.words(31, "EARS gain 5 (100 at most); they lose 10 (10 at least)");
        StormOffice x = new StormOffice();
        int[] down = {90, 80, 70, 60, 50, 40, 30, 20, 10, 10, 10};
        for (int i = 0; i < down.length; i++) {
            judged(x, false);
            Edges.due("FALSE, " + (i + 1), x.asks(2, 7), down[i]);
        }
        for (int ears = 15; ears <= 100; ears += 5) {
            judged(x, true);
            Edges.due("RIGHT, to " + ears, x.asks(2, 7), ears);
        }
        judged(x, true);
        Edges.due("RIGHT, 100 at most", x.asks(2, 7), 100);
        judged(x, true);
        Edges.due("RIGHT, 100 at most", x.asks(2, 7), 100);
        judged(x, false);
        judged(x, true);
        Edges.due("90 and 5", x.asks(2, 7), 95);
        judged(x, false);
        Edges.due("95 less 10", x.asks(2, 7), 85);
        StormOffice y = new StormOffice();
        for (int i = 0; i < 9; i++) judged(y, false);
        judged(y, true);
        Edges.due("15", y.asks(2, 7), 15);
        judged(y, false);
        Edges.due("15 less 10 is 10 at least", y.asks(2, 7), 10);
        for (int county = 0; county < 8; county++) {
            if (county != 2) Edges.due("no other COUNTY's EARS", y.asks(county, 7), 100);
        }
    }

    /** One more WARNING of COUNTY 2, to which CELL 95 belongs, is JUDGED; one MINUTE goes by. */
    private static void judged(StormOffice x, boolean right) {
        x.land(95, 2, 0, 0);
        x.warn(2, 1);
        if (right) x.truth(x.look(0), 95);
        x.minutes(1);
        x.judge();
    }

    private static void inTheirOrder() {
        Edges.words(31, "in their order");
        for (int set = 0; set < 8; set++) {
            StormOffice x = new StormOffice();
            x.land(95, 2, 0, 0);
            int ears = 100;
            for (int t = 0; t < 3; t++) {
                boolean right = (set >> t & 1) == 1;
                x.warn(2, 1);
                if (right) x.truth(t, 95);
                x.minutes(1);
                ears = right ? Math.min(100, ears + 5) : ears - 10;
            }
            Edges.due("three, RIGHT by the set " + set, x.judge(), 3);
            Edges.due("three, RIGHT by the set " + set, x.asks(2, 7), ears);
        }
    }

    private static void entries() {
        Edges.words(32, "for one COUNTY (0 .. 7). NONE if one can't be, or another what");
        Edges.Story passed = x -> {
            for (int county = 0; county < 8; county++) x.land(county, county, 0, 0);
            x.minutes(9);
            for (int t = 0; t < 8; t++) x.truth(t, t);
        };
        for (int what = 0; what <= 2; what++) {
            int w = what;
            Edges.bounds("COUNTY 0 .. 7, what " + what, 0, 7, passed, (x, v) -> x.entries(v, w), -1, what == 2 ? 0 : 1);
        }
        Edges.beyond("what 0 .. 2", 0, 2, passed, (x, v) -> x.entries(3, v), -1);
        Edges.beyond("what 0 .. 2", 0, 2, Edges.BUSY, (x, v) -> x.entries(3, v), -1);
        Edges.beyond("COUNTY 0 .. 7", 0, 7, Edges.BUSY, (x, v) -> x.entries(v, 0), -1);
        Edges.words(32, "MINUTES of THE TRUTH in a COUNTY, whose MINUTE ahead has no CELL of it");
        StormOffice x = new StormOffice();
        x.land(50, 1, 0, 0);
        x.land(51, 1, 0, 0);
        x.minutes(9);
        int[] path = {50, 51, 50, 0, 51, -1, 50, 50, 0, 50};
        int[] sums = {1, 1, 1, 1, 2, 2, 3, 3, 3, 4};
        for (int t = 0; t <= 9; t++) {
            x.truth(t, path[t]);
            Edges.due("up to " + t, x.entries(1, 0), sums[t]);
        }
        Edges.due("of COUNTY 0", x.entries(0, 0), 2);
        Edges.due("of another COUNTY", x.entries(7, 0), 0);
        x.truth(8, 51);
        Edges.due("no way out at 8", x.entries(1, 0), 3);
        StormOffice y = new StormOffice();
        Edges.until(y, 719);
        y.truth(0, 0);
        y.truth(719, 0);
        Edges.due("the first and the last MINUTE", y.entries(0, 0), 2);
    }

    private static void lead() {
        Edges.words(32, "MISSED are those at which no WARNING of it is there; LEAD of the others: how long it had been there");
        int[] missed = {1, 0, 0, 0, 1};
        int[] leads = {0, 0, 1, 2, 0};
        for (int i = 0; i < 5; i++) {
            StormOffice x = new StormOffice();
            x.land(50, 1, 0, 0);
            x.minutes(4);
            x.warn(1, 3);
            x.warn(2, 60);
            x.minutes(9);
            x.truth(3 + i, 50);
            Edges.due("there from 4 to 6, entered at " + (3 + i), x.entries(1, 0), 1);
            Edges.due("MISSED, entered at " + (3 + i), x.entries(1, 1), missed[i]);
            Edges.due("LEAD, entered at " + (3 + i), x.entries(1, 2), leads[i]);
        }
        StormOffice x = new StormOffice();
        x.land(50, 1, 0, 0);
        x.warn(1, 3);
        x.minutes(2);
        x.warn(1, 3);
        x.minutes(3);
        x.warn(1, 9);
        x.minutes(5);
        x.truth(4, 50);
        Edges.due("made longer, from its beginning on", x.entries(1, 2), 4);
        x.truth(6, 50);
        Edges.due("the next one had been there for 1", x.entries(1, 2), 5);
        x.truth(5, 50);
        Edges.due("one entry alone", x.entries(1, 2), 4);
        StormOffice y = new StormOffice();
        y.warn(0, 5);
        y.lift(0);
        y.truth(0, 0);
        Edges.due("lifted at its beginning it was not there", y.entries(0, 1), 1);
        y.warn(0, 5);
        Edges.due("another one is there", y.entries(0, 1), 0);
        Edges.due("it had been there for 0", y.entries(0, 2), 0);
    }
}
