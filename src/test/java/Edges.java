import java.util.Arrays;
import java.util.IdentityHashMap;
import java.util.Map;
import java.util.TreeSet;

/** Cases at the boundaries that the document names, each told under its promise and the words that name it. */
final class Edges {
    interface Story {
        void on(StormOffice x);
    }

    interface Call {
        long on(StormOffice x);
    }

    interface CallWith {
        long on(StormOffice x, int value);
    }

    static final Story NEW = x -> { };
    static final int BUSY_NOW = 23;
    /** An office in which every kind of thing has been told, and all three RADARS are there. */
    static final Story BUSY = Edges::makeBusy;

    private static final Map<Story, long[]> SHOWN = new IdentityHashMap<>();
    private static String heading = "";

    private Edges() { }

    /** What follows stands under this promise and these words of the document. */
    static void words(int promise, String words) {
        heading("Promise " + promise + " '" + words + "': ");
    }

    static void heading(String text) {
        heading = text;
    }

    static void due(String theCase, long got, long want) {
        Due.due(heading + theCase, got, want);
    }

    static void due(String theCase, boolean got, boolean want) {
        Due.due(heading + theCase, got, want);
    }

    static long is(boolean answer) {
        return answer ? 1 : 0;
    }

    static StormOffice after(Story story) {
        StormOffice x = new StormOffice();
        story.on(x);
        return x;
    }

    /** The call is answered by the refusal, and all that later calls show is as if it had not been. */
    static void refused(String theCase, Story story, Call call, long refusal) {
        due(theCase + ", refused", call.on(after(story)), refusal);
        long[] without = SHOWN.computeIfAbsent(story, s -> Shown.after(s, x -> 0));
        int differs = Arrays.mismatch(without, Shown.after(story, call));
        due(theCase + ", nothing is done: the place of what later calls show", differs, -1);
    }

    /** Just beyond the bounds on either side, and as far beyond as an int goes, the call is refused. */
    static void beyond(String what, int least, int most, Story story, CallWith call, long refusal) {
        for (int value : new int[] {least - 1, most + 1, Integer.MIN_VALUE, Integer.MAX_VALUE}) {
            refused(what + ", told " + value, story, x -> call.on(x, value), refusal);
        }
    }

    /** At the bounds, and just within them, the call answers what is wanted there. */
    static void within(String what, int least, int most, Story story, CallWith call, CallWith want) {
        for (int value : new TreeSet<>(Arrays.asList(least, Math.min(most, least + 1), Math.max(least, most - 1), most))) {
            StormOffice x = after(story);
            due(what + ", told " + value, call.on(x, value), want.on(x, value));
        }
    }

    static void bounds(String what, int least, int most, Story story, CallWith call, long refusal, long taken) {
        beyond(what, least, most, story, call, refusal);
        within(what, least, most, story, call, (x, value) -> taken);
    }

    /** NOW goes on to a MINUTE that is told, without RULES being ON. */
    static void until(StormOffice x, int minute) {
        for (int calls = 0; x.look(0) < minute && calls < 12; calls++) {
            x.minutes(Math.min(60, minute - x.look(0)));
        }
        Due.due(heading + "NOW", x.look(0), minute);
    }

    private static void makeBusy(StormOffice x) {
        for (int c = 0; c < 96; c += 4) {
            x.land(c, c / 4 % 8, 10 * c + 5, c / 4 % 7);
        }
        x.siren(8, true);
        x.siren(50, true);
        x.storm(1 << 4 | 1 << 5 | 1 << 7, 2);
        x.radar(0, 40, 3, 2);
        x.radar(1, 0, 1, 3);
        x.radar(2, 95, 2, 0);
        x.blind(0, 41, true);
        x.blind(2, 95, true);
        x.post(0, 44, 1);
        x.post(3, 20, 2);
        x.post(7, 90, 0);
        x.warn(5, 4);
        x.warn(6, 3);
        x.minutes(20);
        x.seen(0, 18, 42);
        x.bare(2, 19);
        x.word(20, 41, 4);
        x.word(20, 16, -1);
        x.word(20, 44, 3);
        x.truth(2, 20);
        x.truth(3, 20);
        x.truth(19, 24);
        x.judge();
        Due.rules(x, "wait when people>2000; warn 4 when people>1100 and left<2; lift when ears=90 and left>20;");
        x.on(true);
        x.minutes(2);
        x.warn(1, 10);
        x.warn(5, 30);
        x.minutes(1);
        x.truth(22, 28);
        x.truth(23, 4);
        Due.rules(x, "warn 5 whence 1=1;");
        Due.tape(x, "wait when people>999;warn 7 when near>1;");
    }
}
