/** The boundary cases of promises 23 to 27: MINUTES that go by, WARNINGS by RULES and by hand. */
public final class WarningsEdgesTest {
    private static final int NOW = Edges.BUSY_NOW;
    /** 199 WARNINGS have been, none is there; NOW is 30, and RULES that would warn all are not ON. */
    private static final Edges.Story NEARLY_FULL = x -> {
        Due.rules(x, "warn 1 when 1=1;");
        x.on(true);
        x.minutes(24);
        x.on(false);
        for (int county = 0; county < 7; county++) x.warn(county, 1);
        x.minutes(6);
    };
    /** The 200th, of COUNTY 4, is there. */
    private static final Edges.Story FULL = x -> {
        NEARLY_FULL.on(x);
        x.warn(4, 10);
    };
    /** The 200th has been, too. */
    private static final Edges.Story FULL_ENDED = x -> {
        FULL.on(x);
        x.minutes(10);
    };

    public static void main(String[] args) {
        minutes();
        lastMinute();
        aMinuteGoesBy();
        countiesByNumbers();
        spanByRules();
        warn();
        thereFromUntil();
        longer();
        twoHundred();
        twoHundredByRules();
        lift();
        warning();
        look();
        Due.finish();
    }

    private static void minutes() {
        Edges.words(23, "So many MINUTES (1 .. 60) go by: NOW; NONE, and nothing is done, if one can't be");
        Edges.beyond("n 1 .. 60", 1, 60, Edges.BUSY, (x, v) -> x.minutes(v), -1);
        Edges.beyond("n 1 .. 60", 1, 60, Edges.NEW, (x, v) -> x.minutes(v), -1);
        Edges.within("n 1 .. 60", 1, 60, Edges.BUSY, (x, v) -> x.minutes(v), (x, v) -> NOW + v);
        Edges.within("n 1 .. 60", 1, 60, Edges.NEW, (x, v) -> x.minutes(v), (x, v) -> v);
        StormOffice x = new StormOffice();
        x.minutes(60);
        Edges.due("NOW", x.look(0), 60);
        x.minutes(61);
        Edges.due("NOW, refused", x.look(0), 60);
    }

    private static void lastMinute() {
        Edges.words(23, "NONE, and nothing is done, beyond 719");
        for (int now : new int[] {658, 659, 660, 661, 717, 718, 719}) {
            Edges.Story late = x -> {
                Edges.until(x, now);
                Due.rules(x, "warn 9 when 1=1;");
                x.on(true);
            };
            int room = 719 - now;
            if (room > 0) {
                int most = Math.min(60, room);
                StormOffice x = Edges.after(late);
                Edges.due("at " + now + ", " + most + " more", x.minutes(most), now + most);
                Edges.due("at " + now + ", NOW", x.look(0), now + most);
                Edges.due("at " + now + ", RULES were asked", x.look(2) >= 8, true);
            }
            if (room < 60) {
                Edges.refused("at " + now + ", " + (room + 1) + " more", late, x -> x.minutes(room + 1), -1);
                Edges.refused("at " + now + ", 60 more", late, x -> x.minutes(60), -1);
            }
        }
    }

    private static void aMinuteGoesBy() {
        Edges.words(23, "A MINUTE goes by: each COUNTY is asked. Then NOW is one more");
        StormOffice x = new StormOffice();
        x.land(0, 1, 0, 0);
        Due.rules(x, "warn 1 when hour=1 and near=1;");
        x.on(true);
        x.minutes(59);
        x.minutes(1);
        Edges.due("asked at 59 is not asked at 60", x.look(2), 0);
        x.minutes(1);
        Edges.due("asked at 60", x.look(2), 1);
        Edges.due("it began at 60", x.warning(0, 1), 60);
        x.minutes(59);
        Edges.due("asked at 61 .. 119", x.look(2), 60);
        x.minutes(2);
        Edges.due("not asked at 120", x.look(2), 60);
        Edges.due("the last began at 119", x.warning(59, 1), 119);
        Edges.words(23, "the first line that is so is done");
        StormOffice y = new StormOffice();
        Due.rules(y, "wait when 1=1; warn 9 when 1=1;");
        y.on(true);
        y.minutes(5);
        Edges.due("wait", y.look(2), 0);
        Due.rules(y, "lift when 1=1; warn 9 when 1=1;");
        y.minutes(1);
        Edges.due("lift, of none, is done alone", y.look(2), 0);
        Due.rules(y, "lift when 1=2; warn 9 when 1=1; lift when 1=1;");
        y.minutes(1);
        Edges.due("warn", y.look(3), 8);
        Edges.due("warn, for 9 from 6 on", y.warning(7, 2), 15);
        Due.rules(y, "warn 1 when 1=2; lift when 1=1; warn 60 when 1=1;");
        y.minutes(1);
        Edges.due("lift: it ends NOW", y.warning(7, 2), 7);
        Edges.due("lift: none is there", y.look(3), 0);
        Due.rules(y, "warn 5 when 1=2;");
        y.minutes(3);
        Edges.due("no line is so", y.look(2), 8);
        Edges.words(23, "as known NOW");
        StormOffice z = new StormOffice();
        z.minutes(3);
        z.word(3, 0, -1);
        Due.rules(z, "warn 1 when doubtful>0;");
        z.on(true);
        z.minutes(20);
        Edges.due("of the last ten MINUTES: asked at 3 .. 12", z.look(2), 10);
        Edges.due("the last at 12", z.warning(9, 1), 12);
    }

    private static void countiesByNumbers() {
        Edges.words(23, "each COUNTY by numbers");
        StormOffice x = new StormOffice();
        for (int county = 0; county < 8; county++) x.land(95 - county, county, 100 + county, 0);
        Due.rules(x, "warn people-99 when people>0;");
        x.on(true);
        x.minutes(1);
        for (int county = 0; county < 8; county++) {
            Edges.due("the WARNING of COUNTY " + county, x.warning(county, 0), county);
            Edges.due("it ENDS", x.warning(county, 2), county + 1);
        }
        Edges.due("no other", x.look(2), 8);
    }

    private static void spanByRules() {
        Edges.words(23, "a WARNING for E MINUTES (1 at least, 60 at most) from NOW on");
        String[] spans = {"0-9999", "0-1", "0", "1", "2", "59", "60", "61", "9999", "9999*9999*21", "9999*9999*22", "60*2/2",
            "121/2", "122/2"};
        int[] ends = {1, 1, 1, 1, 2, 59, 60, 60, 60, 60, 1, 60, 60, 60};
        for (int i = 0; i < spans.length; i++) {
            StormOffice x = new StormOffice();
            x.minutes(7);
            Due.rules(x, "warn " + spans[i] + " when 1=1;");
            x.on(true);
            x.minutes(1);
            Edges.due("E " + spans[i], x.warning(0, 2), 7 + ends[i]);
            Edges.due("E " + spans[i] + ", it began", x.warning(0, 1), 7);
        }
        Edges.words(23, "one that is there ends no earlier than it would have");
        for (int span : new int[] {1, 9, 10, 11, 60}) {
            StormOffice x = new StormOffice();
            x.warn(0, 20);
            x.minutes(10);
            Due.rules(x, "warn " + span + " when people=0 and left=10;");
            x.on(true);
            x.minutes(1);
            Edges.due("10 are left, E " + span, x.warning(0, 2), 10 + Math.max(10, span));
            Edges.due("10 are left, E " + span + ", no new one", x.look(2), 1);
        }
    }

    private static void warn() {
        Edges.words(24, "A WARNING by hand for so many MINUTES (1 .. 60); NONE, and nothing is done, if one can't be");
        Edges.beyond("COUNTY 0 .. 7", 0, 7, Edges.BUSY, (x, v) -> x.warn(v, 30), -1);
        Edges.beyond("COUNTY 0 .. 7", 0, 7, Edges.NEW, (x, v) -> x.warn(v, 30), -1);
        Edges.within("COUNTY 0 .. 7", 0, 7, Edges.NEW, (x, v) -> x.warn(v, 30), (x, v) -> 0);
        Edges.beyond("1 .. 60, one is there", 1, 60, Edges.BUSY, (x, v) -> x.warn(5, v), -1);
        Edges.beyond("1 .. 60, none is there", 1, 60, Edges.BUSY, (x, v) -> x.warn(0, v), -1);
        Edges.within("1 .. 60, none is there", 1, 60, Edges.BUSY, (x, v) -> x.warn(0, v), (x, v) -> 9);
        Edges.within("1 .. 60, one is there", 1, 60, Edges.BUSY, (x, v) -> x.warn(5, v), (x, v) -> 5);
        for (int span : new int[] {1, 2, 59, 60}) {
            StormOffice x = new StormOffice();
            x.minutes(3);
            Edges.due("for " + span, x.warn(7, span), 0);
            Edges.due("for " + span + ", it begins NOW", x.warning(0, 1), 3);
            Edges.due("for " + span + ", it ENDS", x.warning(0, 2), 3 + span);
            Edges.due("for " + span + ", its COUNTY", x.warning(0, 0), 7);
        }
        StormOffice x = new StormOffice();
        Edges.until(x, 719);
        Edges.due("at the last MINUTE", x.warn(0, 60), 0);
        Edges.due("at the last MINUTE, it ENDS", x.warning(0, 2), 779);
    }

    private static void thereFromUntil() {
        Edges.words(24, "it is there from its beginning up to the MINUTE ahead of that");
        for (int span : new int[] {1, 2, 5}) {
            StormOffice x = new StormOffice();
            x.minutes(4);
            x.warn(2, span);
            Edges.due("for " + span + ", at its beginning", x.look(3), 1);
            for (int i = 1; i < span; i++) x.minutes(1);
            Edges.due("for " + span + ", at its last MINUTE", x.look(3), 1);
            Edges.due("for " + span + ", at its last MINUTE: the same one", x.warn(2, 1), 0);
            Edges.due("for " + span + ", it ENDS as before", x.warning(0, 2), 4 + span);
            x.minutes(1);
            Edges.due("for " + span + ", when it ENDS", x.look(3), 0);
            Edges.due("for " + span + ", when it ENDS: another one", x.warn(2, 1), 1);
            Edges.due("for " + span + ", the first is as it was", x.warning(0, 2), 4 + span);
            Edges.due("for " + span + ", the other begins there", x.warning(1, 1), 4 + span);
        }
    }

    private static void longer() {
        Edges.words(24, "its number (of the one that is there, too); what comes while it is there makes it longer");
        for (int more : new int[] {1, 6, 7, 8, 60}) {
            StormOffice x = new StormOffice();
            x.warn(1, 2);
            x.warn(3, 10);
            x.minutes(3);
            Edges.due("7 are left, " + more + " more", x.warn(3, more), 1);
            Edges.due("7 are left, " + more + " more: it ENDS", x.warning(1, 2), 3 + Math.max(7, more));
            Edges.due("7 are left, " + more + " more: it began", x.warning(1, 1), 0);
            Edges.due("7 are left, " + more + " more: no new one", x.look(2), 2);
        }
        StormOffice x = new StormOffice();
        for (int i = 0; i < 11; i++) {
            Edges.due("longer and longer", x.warn(3, 60), 0);
            x.minutes(59);
        }
        Edges.due("it began at 0", x.warning(0, 1), 0);
        Edges.due("it ENDS at 650", x.warning(0, 2), 650);
        Edges.due("it is there", x.asks(3, 6), 1);
    }

    private static void twoHundred() {
        Edges.words(24, "NONE, and nothing is done, if there are 200");
        StormOffice x = Edges.after(NEARLY_FULL);
        Edges.due("199 have been", x.look(2), 199);
        Edges.due("none is there", x.look(3), 0);
        Edges.due("the 200th", x.warn(4, 10), 199);
        Edges.due("200", x.look(2), 200);
        Edges.due("the 201st", x.warn(5, 10), -1);
        Edges.due("200 still", x.look(2), 200);
        Edges.due("no 200", x.warning(200, 0), -1);
        Edges.refused("the 201st, of another COUNTY", FULL, y -> y.warn(5, 10), -1);
        for (int county = 0; county <= 7; county++) {
            int c = county;
            Edges.refused("the 201st, none is there, COUNTY " + c, FULL_ENDED, y -> y.warn(c, 60), -1);
        }
        Edges.refused("a COUNTY that can't be", FULL, y -> y.warn(8, 10), -1);
        Edges.refused("MINUTES that can't be", FULL, y -> y.warn(4, 61), -1);
        // No new one is made: what comes while it is there makes it longer.
        Edges.words(24, "200 at most; of the one that is there, too");
        StormOffice z = Edges.after(FULL);
        z.minutes(4);
        Edges.due("the number of the one that is there", z.warn(4, 20), 199);
        Edges.due("it is longer", z.warning(199, 2), 54);
        Edges.due("200 still", z.look(2), 200);
        Edges.due("it is lifted", z.lift(4), true);
        Edges.due("none is there then", z.warn(4, 20), -1);
    }

    private static void twoHundredByRules() {
        Edges.words(23, "200 at most");
        StormOffice x = Edges.after(NEARLY_FULL);
        x.on(true);
        x.minutes(1);
        Edges.due("one of eight is made", x.look(2), 200);
        Edges.due("the one of COUNTY 0", x.warning(199, 0), 0);
        Edges.due("it ENDS", x.warning(199, 2), 31);
        x.minutes(5);
        Edges.due("no more are made", x.look(2), 200);
        Edges.due("none is there", x.look(3), 0);
        StormOffice y = Edges.after(FULL);
        Due.rules(y, "warn 30 when left>0;");
        y.on(true);
        y.minutes(1);
        Edges.due("the one that is there is made longer", y.warning(199, 2), 60);
        Due.rules(y, "lift when left>0;");
        y.minutes(1);
        Edges.due("it is lifted", y.warning(199, 2), 31);
    }

    private static void lift() {
        Edges.words(25, "It is lifted: true; false if none is there, or one can't be");
        Edges.beyond("COUNTY 0 .. 7", 0, 7, Edges.BUSY, (x, v) -> Edges.is(x.lift(v)), 0);
        Edges.refused("none is there", Edges.BUSY, x -> Edges.is(x.lift(0)), 0);
        Edges.within("COUNTY 0 .. 7", 0, 7, Edges.BUSY, (x, v) -> Edges.is(x.lift(v)), (x, v) -> v == 0 ? 0 : 1);
        for (int county = 0; county <= 7; county++) {
            StormOffice x = new StormOffice();
            x.minutes(2);
            x.warn(county, 9);
            for (int other = 0; other <= 7; other++) if (other != county) Edges.due("another", x.lift(other), false);
            x.minutes(3);
            Edges.due("COUNTY " + county, x.lift(county), true);
            Edges.due("it ends NOW", x.warning(0, 2), 5);
            Edges.due("it is not there", x.look(3), 0);
            Edges.due("none is there", x.lift(county), false);
            Edges.due("it is as it was", x.warning(0, 2), 5);
        }
        StormOffice x = new StormOffice();
        x.warn(1, 3);
        x.minutes(2);
        Edges.due("at its last MINUTE", x.lift(1), true);
        Edges.due("it ends one earlier", x.warning(0, 2), 2);
        x.warn(1, 3);
        x.minutes(3);
        Edges.due("when it ENDS", x.lift(1), false);
        Edges.due("it ends as it would", x.warning(1, 2), 5);
        x.warn(1, 3);
        Edges.due("at its beginning", x.lift(1), true);
        Edges.due("it ends at its beginning", x.warning(2, 2) - x.warning(2, 1), 0);
        Edges.due("another one then", x.warn(1, 3), 3);
        Edges.due("another one is there", x.look(3), 1);
    }

    private static void warning() {
        Edges.words(26, "NONE if there is none such, or another what");
        for (int what = 0; what <= 4; what++) {
            int w = what;
            Edges.beyond("WARNINGS 0 .. 8, what " + what, 0, 8, Edges.BUSY, (x, v) -> x.warning(v, w), -1);
            Edges.beyond("WARNINGS 0 .. 199, what " + what, 0, 199, FULL, (x, v) -> x.warning(v, w), -1);
            Edges.due("no WARNING 0, what " + what, new StormOffice().warning(0, what), -1);
        }
        Edges.beyond("what 0 .. 4", 0, 4, Edges.BUSY, (x, v) -> x.warning(5, v), -1);
        int[] busy = {5, 20, 52, 100, 0};
        Edges.within("what 0 .. 4", 0, 4, Edges.BUSY, (x, v) -> x.warning(5, v), (x, v) -> busy[v]);
        int[] last = {4, 30, 40, 100, 0};
        Edges.within("what 0 .. 4, the 200th", 0, 4, FULL, (x, v) -> x.warning(199, v), (x, v) -> last[v]);
        Edges.words(26, "4 0 not JUDGED, 1 RIGHT, 2 FALSE");
        StormOffice x = new StormOffice();
        x.warn(0, 1);
        x.warn(1, 1);
        x.truth(0, 0);
        x.minutes(1);
        Edges.due("not JUDGED", x.warning(0, 4), 0);
        x.judge();
        Edges.due("RIGHT", x.warning(0, 4), 1);
        Edges.due("FALSE", x.warning(1, 4), 2);
    }

    private static void look() {
        Edges.words(27, "NONE for another what");
        Edges.beyond("what 0 .. 5", 0, 5, Edges.BUSY, (x, v) -> x.look(v), -1);
        int[] busy = {NOW, 5, 9, 7, 2, 1};
        for (int what = 0; what <= 5; what++) Edges.due("what " + what, Edges.after(Edges.BUSY).look(what), busy[what]);
        Edges.words(27, "3 those that are there NOW");
        StormOffice x = new StormOffice();
        for (int county = 0; county <= 7; county++) {
            x.warn(county, county + 1);
            Edges.due("begun", x.look(3), county + 1);
        }
        for (int ended = 1; ended <= 8; ended++) {
            x.minutes(1);
            Edges.due("ended", x.look(3), 8 - ended);
            Edges.due("all of them", x.look(2), 8);
        }
    }
}
