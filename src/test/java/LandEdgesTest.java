import java.util.Arrays;

/** The boundary cases of promises 1 to 7: a new object, the land, sirens, the storm, radars. */
public final class LandEdgesTest {
    private static final int[] CORNERS = {0, 11, 84, 95};

    public static void main(String[] args) {
        newObject();
        noneOfAnything();
        manyCalls();
        land();
        siren();
        storm();
        movesAtTheEdges();
        theStart();
        radar();
        range();
        inPlace();
        blind();
        of();
        Due.finish();
    }

    private static void newObject() {
        Edges.words(1, "Bare land, MINUTE 0, no RULES, not ON");
        StormOffice x = new StormOffice();
        int[] first = {0, 0, 10, 0, 0};
        for (int c : new int[] {0, 11, 12, 47, 48, 83, 84, 95}) {
            for (int what = 0; what <= 4; what++) Edges.due("CELL " + c + " what " + what, x.of(c, what), first[what]);
        }
        for (int what = 0; what <= 5; what++) Edges.due("look " + what, x.look(what), 0);
        x.on(true);
        Edges.due("ON without RULES", x.minutes(1), 1);
        Edges.due("ON without RULES warns nobody", x.look(2), 0);
        StormOffice y = new StormOffice();
        Edges.due("RULES told", Due.rules(y, "warn 9 when 1=1;"), 1);
        y.minutes(1);
        Edges.due("RULES that are not ON warn nobody", y.look(2), 0);
        y.on(true);
        y.minutes(1);
        Edges.due("RULES that are ON warn all", y.look(2), 8);
        Edges.words(1, "MOVES (511 at first), THE START (0 at first)");
        StormOffice z = new StormOffice();
        Edges.due("all CELLS at 0", z.count(0, 0, 0), 96);
        z.word(0, 50, 0);
        Edges.due("all nine MOVES", z.count(1, 0, 0), 9);
        Edges.words(1, "EARS of a COUNTY are 100 at first");
        for (int county = 0; county < 8; county++) Edges.due("COUNTY " + county, z.asks(county, 7), 100);
    }

    private static void noneOfAnything() {
        Edges.words(1, "A new object");
        for (int r = 0; r <= 2; r++) {
            int radar = r;
            Edges.refused("no RADAR " + r + ": seen", Edges.NEW, x -> Edges.is(x.seen(radar, 0, 0)), 0);
            Edges.refused("no RADAR " + r + ": bare", Edges.NEW, x -> Edges.is(x.bare(radar, 0)), 0);
            Edges.refused("no RADAR " + r + ": blind", Edges.NEW, x -> Edges.is(x.blind(radar, 0, true)), 0);
            Edges.refused("no RADAR " + r + ": not blind", Edges.NEW, x -> Edges.is(x.blind(radar, 0, false)), 0);
        }
        StormOffice x = new StormOffice();
        Edges.due("no POST", x.posts(1, 0), -1);
        Edges.due("no POST, none of them", x.posts(0, 0), 0);
        Edges.due("no WARNING", x.warning(0, 0), -1);
        Edges.due("none to be JUDGED", x.judge(), 0);
        Edges.due("no TRUTH", x.found(0, 0) + x.entries(0, 0), 0);
        Edges.due("no QUARREL", x.quarrel(0), -1);
        Edges.due("nothing on the TAPE", x.end(1), false);
        Edges.due("no FAULT", x.fault(0), 0);
        Edges.due("no FAULT's place", x.fault(1), -1);
        Edges.due("no line", x.asks(7, 9), -1);
        long[] before = Shown.after(Edges.NEW, office -> 0);
        Edges.after(Edges.BUSY);
        Edges.due("another object has nothing of the one before it",
                Arrays.equals(before, Shown.after(Edges.NEW, office -> 0)), true);
    }

    private static void manyCalls() {
        Edges.words(1, "An object is used for at most 512 calls after it has been made");
        StormOffice x = new StormOffice();
        for (int i = 1; i < 512; i++) x.land(i % 96, i % 8, i, i % 31);
        Edges.due("the 512th", x.of(31, 1), 511);
        StormOffice y = new StormOffice();
        y.radar(0, 0, 0, 3);
        for (int i = 0; i < 300; i++) y.seen(0, 0, 0);
        for (int i = 0; i < 210; i++) y.warn(i % 8, 60);
        Edges.due("the 512th, behind 300 TELLINGS", y.count(0, 0, 0), 16);
        StormOffice z = new StormOffice();
        for (int i = 0; i < 255; i++) {
            z.warn(i % 8, 60);
            z.lift(i % 8);
        }
        Edges.due("the 511th", z.warn(0, 1), -1);
        Edges.due("the 512th, behind 200 WARNINGS", z.look(2), 200);
    }

    private static void land() {
        Edges.words(2, "true; false, and nothing is done, if one can't be");
        Edges.bounds("CELL 0 .. 95", 0, 95, Edges.BUSY, (x, v) -> Edges.is(x.land(v, 3, 77, 7)), 0, 1);
        Edges.bounds("COUNTY 0 .. 7", 0, 7, Edges.BUSY, (x, v) -> Edges.is(x.land(20, v, 77, 7)), 0, 1);
        Edges.bounds("PEOPLE 0 .. 999", 0, 999, Edges.BUSY, (x, v) -> Edges.is(x.land(20, 3, v, 7)), 0, 1);
        Edges.bounds("SHELTERS in 0 .. 30", 0, 30, Edges.BUSY, (x, v) -> Edges.is(x.land(20, 3, 77, v)), 0, 1);
        Edges.words(2, "CELL c is in a COUNTY, has PEOPLE, SHELTERS");
        int[][] told = {{0, 0, 0, 0}, {95, 7, 999, 30}, {0, 7, 0, 30}, {95, 0, 999, 0}, {0, 1, 1, 1}, {95, 6, 998, 29}};
        StormOffice x = new StormOffice();
        for (int[] t : told) {
            Edges.due(Arrays.toString(t), x.land(t[0], t[1], t[2], t[3]), true);
            for (int what = 0; what <= 2; what++) Edges.due(Arrays.toString(t), x.of(t[0], what), t[what + 1]);
            Edges.due(Arrays.toString(t) + " the CELL beside", x.of(t[0] == 0 ? 1 : 94, 2), 10);
        }
        Edges.due("the same again", x.land(95, 6, 998, 29), true);
        Edges.due("PEOPLE of its COUNTY once", x.asks(6, 5), 998);
        x.land(94, 6, 999, 0);
        Edges.due("PEOPLE of two CELLS", x.asks(6, 5), 1997);
        x.land(94, 5, 999, 0);
        Edges.due("PEOPLE of the COUNTY that it left", x.asks(6, 5), 998);
        Edges.due("PEOPLE of the COUNTY that it came to", x.asks(5, 5), 999);
        StormOffice y = new StormOffice();
        for (int c = 0; c < 96; c++) y.land(c, 4, 999, 0);
        Edges.due("the most PEOPLE", y.asks(4, 5), 95904);
        Edges.due("a COUNTY without CELLS", y.asks(0, 5), 0);
        Edges.due("a COUNTY without CELLS is not near", y.asks(0, 3), 0);
    }

    private static void siren() {
        Edges.words(3, "CELL c has a SIREN, or not: likewise");
        Edges.bounds("CELL 0 .. 95", 0, 95, Edges.BUSY, (x, v) -> Edges.is(x.siren(v, true)), 0, 1);
        Edges.bounds("CELL 0 .. 95, not", 0, 95, Edges.BUSY, (x, v) -> Edges.is(x.siren(v, false)), 0, 1);
        Edges.words(3, "also if it was so");
        for (int c : new int[] {0, 47, 48, 95}) {
            StormOffice x = new StormOffice();
            Edges.due("none, told not, CELL " + c, x.siren(c, false), true);
            Edges.due("none", x.of(c, 3), 0);
            Edges.due("told", x.siren(c, true), true);
            Edges.due("told again", x.siren(c, true), true);
            Edges.due("one", x.of(c, 3), 1);
            Edges.due("none beside", x.of(c == 95 ? 94 : c + 1, 3), 0);
            Edges.due("told not", x.siren(c, false), true);
            Edges.due("none any more", x.of(c, 3), 0);
        }
    }

    private static void storm() {
        Edges.words(4, "MOVES and THE START: likewise");
        Edges.bounds("MOVES 1 .. 511", 1, 511, Edges.BUSY, (x, v) -> Edges.is(x.storm(v, 3)), 0, 1);
        Edges.bounds("THE START 0 .. 719", 0, 719, Edges.BUSY, (x, v) -> Edges.is(x.storm(5, v)), 0, 1);
        Edges.refused("MOVES right, THE START wrong", Edges.NEW, x -> Edges.is(x.storm(16, 720)), 0);
        Edges.refused("MOVES wrong, THE START right", Edges.NEW, x -> Edges.is(x.storm(0, 9)), 0);
        Edges.refused("no MOVES at all", Edges.NEW, x -> Edges.is(x.storm(0, 0)), 0);
        Edges.words(4, "MOVE b goes b modulo 3 less 1 in x, b by 3 less 1 in y");
        int[] to = {37, 38, 39, 49, 50, 51, 61, 62, 63};
        for (int b = 0; b <= 8; b++) {
            StormOffice x = new StormOffice();
            x.word(0, 50, 0);
            x.storm(1 << b, 0);
            Edges.due("MOVE " + b + " alone", x.maybe(1, 0, to[b]), 1);
            Edges.due("MOVE " + b + " alone", x.count(1, 0, 0), 1);
            x.storm(511 - (1 << b), 0);
            Edges.due("all but MOVE " + b, x.maybe(1, 0, to[b]), 0);
            Edges.due("all but MOVE " + b, x.count(1, 0, 0), 8);
        }
    }

    private static void movesAtTheEdges() {
        Edges.words(4, "one that goes beyond the land is gone");
        int[] stays = {1 << 4 | 1 << 5 | 1 << 7 | 1 << 8, 1 << 3 | 1 << 4 | 1 << 6 | 1 << 7,
            1 << 1 | 1 << 2 | 1 << 4 | 1 << 5, 1 << 0 | 1 << 1 | 1 << 3 | 1 << 4};
        for (int i = 0; i < 4; i++) {
            for (int b = 0; b <= 8; b++) one(CORNERS[i], b, (stays[i] >> b & 1) == 1);
        }
        // The ends of rows that are neighbours by number, and the rows between which the land is halved.
        int west = 1 << 0 | 1 << 3 | 1 << 6, east = 1 << 2 | 1 << 5 | 1 << 8;
        for (int b = 0; b <= 8; b++) {
            for (int c : new int[] {12, 36, 48, 72}) one(c, b, (west >> b & 1) == 0);
            for (int c : new int[] {23, 47, 59, 83}) one(c, b, (east >> b & 1) == 0);
            for (int c : new int[] {40, 52}) one(c, b, true);
            for (int c : new int[] {5, 6}) one(c, b, b > 2);
            for (int c : new int[] {89, 90}) one(c, b, b < 6);
        }
        int[] gone = {8, 8, 8, 12, -1, 12, 8, 8, 8};
        for (int b = 0; b <= 8; b++) {
            StormOffice x = new StormOffice();
            x.storm(1 << b, 0);
            if (gone[b] < 0) {
                Edges.due("MOVE " + b + " stays for ever", x.count(719, 0, 0), 96);
            } else {
                Edges.due("MOVE " + b + ", some are left", x.count(gone[b] - 1, 0, 0) > 0, true);
                Edges.due("MOVE " + b + ", all are gone", x.count(gone[b], 0, 0), 0);
                Edges.due("MOVE " + b + ", all are gone", x.count(719, 0, 0), 0);
            }
        }
    }

    private static void one(int c, int b, boolean stays) {
        StormOffice x = new StormOffice();
        x.word(0, c, 0);
        x.storm(1 << b, 0);
        Edges.due("from CELL " + c + " by MOVE " + b, x.count(1, 0, 0), stays ? 1 : 0);
        if (stays) Edges.due("from CELL " + c + " by MOVE " + b, x.maybe(1, 0, c + b % 3 - 1 + 12 * (b / 3 - 1)), 1);
    }

    private static void theStart() {
        Edges.words(4, "at THE START all CELLS; ahead of THE START none");
        for (int start : new int[] {0, 1, 5, 718, 719}) {
            StormOffice x = new StormOffice();
            x.storm(1, start);
            Edges.due("at THE START " + start, x.count(start, 0, 0), 96);
            if (start > 0) Edges.due("ahead of THE START " + start, x.count(start - 1, 0, 0), 0);
            if (start > 0) Edges.due("far ahead of THE START " + start, x.count(0, 0, 0), 0);
            if (start < 719) Edges.due("behind THE START " + start, x.count(start + 1, 0, 0), 77);
        }
        StormOffice x = new StormOffice();
        x.storm(16, 5);
        x.storm(16, 3);
        Edges.due("told again, earlier", x.count(3, 0, 0), 96);
        x.storm(16, 7);
        Edges.due("told again, later", x.count(6, 0, 0), 0);
        Edges.due("told again, later", x.count(7, 0, 0), 96);
    }

    private static void radar() {
        Edges.words(5, "RADAR r: likewise");
        Edges.bounds("RADARS 0 .. 2", 0, 2, Edges.BUSY, (x, v) -> Edges.is(x.radar(v, 44, 2, 1)), 0, 1);
        Edges.bounds("CELL 0 .. 95", 0, 95, Edges.BUSY, (x, v) -> Edges.is(x.radar(0, v, 2, 1)), 0, 1);
        Edges.bounds("RANGE 0 .. 11", 0, 11, Edges.BUSY, (x, v) -> Edges.is(x.radar(0, 44, v, 1)), 0, 1);
        Edges.bounds("OFF 0 .. 3", 0, 3, Edges.BUSY, (x, v) -> Edges.is(x.radar(0, 44, 2, v)), 0, 1);
        Edges.words(5, "it is there from then on");
        for (int r = 0; r <= 2; r++) {
            int there = r;
            StormOffice x = new StormOffice();
            x.radar(r, 5, 0, 0);
            for (int other = 0; other <= 2; other++) {
                Edges.due("RADAR " + r + " told, bare of " + other, x.bare(other, 0), r == other);
                Edges.due("RADAR " + r + " told, seen of " + other, x.seen(other, 0, 5), r == other);
                Edges.due("RADAR " + r + " told, blind of " + other, x.blind(other, 5, true), r == other);
            }
            Edges.refused("a refused one is not there", Edges.NEW,
                    y -> Edges.is(y.radar(there, 5, 12, 0) || y.bare(there, 0)), 0);
        }
    }

    private static void range() {
        Edges.words(5, "It SEES the CELLS that are no farther than RANGE");
        int[] corner = {1, 4, 9, 16, 25, 36, 49, 64, 72, 80, 88, 96};
        for (int range = 0; range <= 11; range++) {
            for (int at : CORNERS) {
                StormOffice x = new StormOffice();
                x.radar(1, at, range, 0);
                int sees = 0;
                for (int c = 0; c < 96; c++) sees += x.of(c, 4) == 2 ? 1 : 0;
                Edges.due("from the corner " + at + ", RANGE " + range, sees, corner[range]);
            }
        }
        StormOffice x = new StormOffice();
        x.radar(0, 53, 2, 0);
        // CELL 53 is x 5, y 4.
        for (int c : new int[] {27, 29, 31, 51, 55, 75, 77, 79, 53}) Edges.due("two far, CELL " + c, x.of(c, 4), 1);
        for (int c : new int[] {14, 17, 20, 50, 56, 26, 32, 86, 89, 92, 74, 80}) {
            Edges.due("three far, CELL " + c, x.of(c, 4), 0);
        }
        StormOffice y = new StormOffice();
        y.radar(0, 11, 1, 0);
        y.radar(1, 12, 1, 0);
        Edges.due("11 and 12 are eleven far: RADAR 0 on 11", y.of(12, 4), 2);
        Edges.due("11 and 12 are eleven far: RADAR 1 on 12", y.of(11, 4), 1);
        Edges.due("23 is beside 11", y.of(23, 4), 1);
        Edges.due("24 is beside 12", y.of(24, 4), 2);
        Edges.due("0 is beside 12", y.of(0, 4), 2);
    }

    private static void inPlace() {
        Edges.words(5, "in place of one; nothing BLIND for it");
        StormOffice x = new StormOffice();
        x.radar(0, 0, 11, 3);
        x.radar(1, 0, 11, 3);
        x.blind(0, 5, true);
        x.blind(1, 5, true);
        Edges.due("both BLIND", x.of(5, 4), 0);
        Edges.due("the same again", x.radar(0, 0, 11, 3), true);
        Edges.due("nothing BLIND for it", x.of(5, 4), 1);
        Edges.due("it was not so", x.blind(0, 5, false), false);
        Edges.due("it was so for the other", x.blind(1, 5, true), false);
        Edges.due("a smaller one", x.radar(0, 0, 0, 0), true);
        Edges.due("its old RANGE is gone", x.of(1, 4), 2);
        Edges.due("refused in place", x.radar(1, 0, 12, 3), false);
        Edges.due("refused, still BLIND", x.of(5, 4), 0);
        Edges.due("refused, still there", x.of(6, 4), 2);
    }

    private static void blind() {
        Edges.words(6, "true; false, and nothing is done, if one can't be, or it was so");
        Edges.bounds("RADARS 0 .. 2", 0, 2, Edges.BUSY, (x, v) -> Edges.is(x.blind(v, 30, true)), 0, 1);
        Edges.bounds("CELL 0 .. 95", 0, 95, x -> x.radar(0, 0, 1, 1), (x, v) -> Edges.is(x.blind(0, v, true)), 0, 1);
        Edges.beyond("CELL 0 .. 95, not", 0, 95, Edges.BUSY, (x, v) -> Edges.is(x.blind(0, v, false)), 0);
        Edges.refused("it was BLIND", Edges.BUSY, x -> Edges.is(x.blind(0, 41, true)), 0);
        Edges.refused("it was not BLIND", Edges.BUSY, x -> Edges.is(x.blind(0, 42, false)), 0);
        Edges.refused("BLIND for another", Edges.BUSY, x -> Edges.is(x.blind(1, 41, false)), 0);
        Edges.refused("a RADAR that is not there", y -> y.radar(0, 0, 1, 1), x -> Edges.is(x.blind(1, 0, true)), 0);
        Edges.words(6, "CELL c is BLIND for RADAR r, or not");
        for (int c : new int[] {0, 47, 48, 95}) {
            StormOffice x = new StormOffice();
            x.radar(2, c, 0, 0);
            Edges.due("seen, CELL " + c, x.of(c, 4), 4);
            Edges.due("BLIND", x.blind(2, c, true), true);
            Edges.due("not seen", x.of(c, 4), 0);
            Edges.due("BLIND again", x.blind(2, c, true), false);
            Edges.due("still not seen", x.of(c, 4), 0);
            Edges.due("not BLIND", x.blind(2, c, false), true);
            Edges.due("seen again", x.of(c, 4), 4);
            Edges.due("not BLIND again", x.blind(2, c, false), false);
            int far = 95 - c;
            Edges.due("BLIND where it does not reach", x.blind(2, far, true), true);
            Edges.due("nor then seen", x.of(far, 4), 0);
        }
    }

    private static void of() {
        Edges.words(7, "NONE if there is none such, or another what");
        for (int what = 0; what <= 4; what++) {
            int w = what;
            Edges.beyond("CELL 0 .. 95, what " + what, 0, 95, Edges.BUSY, (x, v) -> x.of(v, w), -1);
        }
        Edges.beyond("what 0 .. 4", 0, 4, Edges.BUSY, (x, v) -> x.of(8, v), -1);
        int[] busy = {2, 85, 2, 1, 0};
        Edges.within("what 0 .. 4", 0, 4, Edges.BUSY, (x, v) -> x.of(8, v), (x, v) -> busy[v]);
        Edges.words(7, "4 RADARS that SEE it, as a set");
        for (int set = 0; set <= 7; set++) {
            StormOffice x = new StormOffice();
            for (int r = 0; r <= 2; r++) if ((set >> r & 1) == 1) x.radar(r, 95, 0, 0);
            Edges.due("set " + set, x.of(95, 4), set);
            Edges.due("beside", x.of(94, 4), 0);
        }
    }
}
