/** Promises 23 to 27: minutes, WARNINGS by RULES and by hand. */
public final class WarningsTest {
    public static void main(String[] args) {
        minutes();
        byRules();
        spans();
        byHand();
        lift();
        limit();
        Due.finish();
    }

    private static void minutes() {
        StormOffice x = new StormOffice();
        int[] wrong = {0, -1, 61, Integer.MAX_VALUE, Integer.MIN_VALUE};
        for (int n : wrong) Due.due("Promise 23: wrong", x.minutes(n), -1);
        Due.due("Promise 23: nothing was done", x.look(0), 0);
        for (int i = 1; i <= 11; i++) Due.due("Promise 23: sixty", x.minutes(60), 60 * i);
        Due.due("Promise 23: beyond 719", x.minutes(60), -1);
        Due.due("Promise 23: up to 719", x.minutes(59), 719);
        Due.due("Promise 23: beyond 719", x.minutes(1), -1);
        Due.due("Promise 27: NOW", x.look(0), 719);
        Due.due("Promise 24: at the last MINUTE", x.warn(0, 60), 0);
        Due.due("Promise 26: it ENDS", x.warning(0, 2), 779);
        Due.due("Promise 22: hour", x.asks(0, 8), 11);
    }

    private static void byRules() {
        StormOffice x = new StormOffice();
        for (int county = 1; county < 8; county++) x.land(county, county, county * 100, 0);
        Due.rules(x, "wait when people=300; warn people/100 when people>0 and left=0; lift when left=2 and people=700;");
        x.on(true);
        x.minutes(1);
        Due.due("Promise 23: each COUNTY but 0 and 3", x.look(2), 6);
        int[] counties = {1, 2, 4, 5, 6, 7};
        for (int w = 0; w < 6; w++) {
            Due.due("Promise 26: COUNTIES by numbers", x.warning(w, 0), counties[w]);
            Due.due("Promise 26: began", x.warning(w, 1), 0);
            Due.due("Promise 26: ENDS", x.warning(w, 2), counties[w]);
        }
        Due.due("Promise 27: there NOW: the one of 1 has ended", x.look(3), 5);
        x.minutes(5);
        // COUNTY 7 is at 5 with 2 left: lifted then
        Due.due("Promise 23: lifted", x.warning(5, 2), 5);
        Due.due("Promise 23: the first line that is so", x.asks(3, 6), 0);
        x.minutes(1);
        Due.due("Promise 23: COUNTY 1 every MINUTE, 2 every second", x.look(2), 6 + 6 + 3 + 1 + 1 + 1 + 1);
    }

    private static void spans() {
        StormOffice x = new StormOffice();
        x.on(true);
        Due.rules(x, "warn 0-5 when near>0;");
        x.minutes(1);
        Due.due("Promise 23: 1 at least", x.warning(0, 2), 1);
        Due.rules(x, "warn 9999 when near>0;");
        x.minutes(1);
        Due.due("Promise 23: 60 at most", x.warning(1, 2), 61);
        Due.rules(x, "warn 3 when near>0;");
        x.minutes(1);
        Due.due("Promise 23: no earlier than it would have", x.warning(1, 2), 61);
        Due.rules(x, "warn 60 when near>0;");
        x.minutes(1);
        Due.due("Promise 23: longer", x.warning(1, 2), 63);
        Due.due("Promise 23: the same", x.look(2), 2);
        Due.rules(x, "lift when near>0;");
        x.minutes(1);
        Due.due("Promise 23: it ends NOW", x.warning(1, 2), 4);
        Due.due("Promise 27: none there", x.look(3), 0);
    }

    private static void byHand() {
        StormOffice x = new StormOffice();
        int[][] wrong = {{-1, 5}, {8, 5}, {0, 0}, {0, 61}, {0, -1}};
        for (int[] w : wrong) Due.due("Promise 24: wrong", x.warn(w[0], w[1]), -1);
        Due.due("Promise 24: nothing was done", x.look(2), 0);
        Due.due("Promise 24: the first", x.warn(5, 1), 0);
        Due.due("Promise 24: another COUNTY", x.warn(2, 60), 1);
        Due.due("Promise 24: the one that is there", x.warn(5, 4), 0);
        Due.due("Promise 24: made longer", x.warning(0, 2), 4);
        Due.due("Promise 24: not shorter", x.warn(5, 2), 0);
        Due.due("Promise 24: not shorter", x.warning(0, 2), 4);
        x.minutes(3);
        Due.due("Promise 24: still there", x.warn(5, 1), 0);
        x.minutes(1);
        Due.due("Promise 27: ended", x.look(3), 1);
        Due.due("Promise 24: a new one", x.warn(5, 1), 2);
        int[] want = {5, 4, 5, 100, 0};
        for (int what = 0; what < 5; what++) Due.due("Promise 26: what " + what, x.warning(2, what), want[what]);
        Due.due("Promise 26: wrong what", x.warning(0, -1), -1);
        Due.due("Promise 26: wrong what", x.warning(0, 5), -1);
        Due.due("Promise 26: none such", x.warning(-1, 0), -1);
        Due.due("Promise 26: none such", x.warning(3, 0), -1);
        Due.due("Promise 27: wrong what", x.look(-1), -1);
        Due.due("Promise 27: wrong what", x.look(6), -1);
    }

    private static void lift() {
        StormOffice x = new StormOffice();
        Due.due("Promise 25: none there", x.lift(0), false);
        Due.due("Promise 25: wrong", x.lift(-1), false);
        Due.due("Promise 25: wrong", x.lift(8), false);
        x.warn(0, 10);
        Due.due("Promise 25: another COUNTY", x.lift(1), false);
        Due.due("Promise 25: at once", x.lift(0), true);
        Due.due("Promise 25: it ENDS NOW", x.warning(0, 2), 0);
        Due.due("Promise 24: a new one in the same MINUTE", x.warn(0, 10), 1);
        x.minutes(4);
        Due.due("Promise 25: later", x.lift(0), true);
        Due.due("Promise 25: it ENDS NOW", x.warning(1, 2), 4);
        Due.due("Promise 25: again", x.lift(0), false);
    }

    private static void limit() {
        StormOffice x = new StormOffice();
        x.on(true);
        Due.rules(x, "warn 1 when 1=1;");
        x.minutes(24);
        Due.due("Promise 23: 200 at most", x.look(2), 192);
        x.on(false);
        for (int county = 0; county < 7; county++) x.warn(county, 1);
        Due.due("Promise 24: the last", x.warn(7, 5), 199);
        x.minutes(1);
        Due.due("Promise 24: no more", x.warn(0, 5), -1);
        Due.due("Promise 24: the one that is there", x.warn(7, 8), 199);
        Due.due("Promise 24: the one that is there", x.warning(199, 2), 33);
        x.on(true);
        x.minutes(3);
        Due.due("Promise 23: no more", x.look(2), 200);
        Due.due("Promise 31: all but one", x.judge(), 199);
        Due.due("Promise 27: judged", x.look(4), 199);
        Due.due("Promise 27: false", x.look(5), 199);
        Due.due("Promise 22: 10 at least", x.asks(0, 7), 10);
        Due.due("Promise 22: 10 at least", x.asks(7, 7), 10);
    }
}
