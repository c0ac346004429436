import java.util.Arrays;

/**
 * What the calls of an office show behind a story and one more call. Each part is asked of an object of its own:
 * some calls change what others show, and behind 512 calls an object is free to answer anything.
 */
final class Shown {
    private static final int PARTS = 11;
    private static final int LONGEST_STORY = 330;

    private final StormOffice x;
    private final int now;
    private long[] answers = new long[200];
    private int size;

    private Shown(StormOffice office) {
        x = office;
        now = x.look(0);
        put(now);
    }

    static long[] after(Edges.Story story, Edges.Call more) {
        long[] all = new long[0];
        for (int part = 0; part < PARTS; part++) {
            StormOffice x = Edges.after(story);
            more.on(x);
            Shown shown = new Shown(x);
            shown.look(part);
            if (shown.size > 512 - LONGEST_STORY) throw new IllegalStateException("part " + part + " is too long");
            int from = all.length;
            all = Arrays.copyOf(all, from + shown.size);
            System.arraycopy(shown.answers, 0, all, from, shown.size);
        }
        return all;
    }

    private void put(long answer) {
        if (size == answers.length) answers = Arrays.copyOf(answers, 2 * size);
        answers[size++] = answer;
    }

    private void look(int part) {
        switch (part) {
            case 0: cells(0, 32); break;
            case 1: cells(32, 64); break;
            case 2: cells(64, 96); break;
            case 3: heart(); break;
            case 4: hearts(); break;
            case 5: paths(); break;
            case 6: warnings(); break;
            case 7: asked(); break;
            case 8: truth(); break;
            case 9: tape(); break;
            default: later(); break;
        }
    }

    private void cells(int from, int until) {
        for (int c = from; c < until; c++) {
            for (int what = 0; what <= 4; what++) put(x.of(c, what));
        }
    }

    private void heart() {
        int[] minutes = {0, 2, now - 5, now - 1, now, now + 1, 719};
        int[] known = {0, now - 4, now - 1, now};
        for (int k : known) {
            put(x.quarrel(k));
            for (int t : minutes) {
                put(x.count(t, k, 0));
                put(x.count(t, k, 1));
            }
        }
    }

    private void hearts() {
        for (int c = 0; c < 96; c++) put(c % 2 == 0 ? x.maybe(now, now, c) : x.count(Math.max(0, now - 4), now, 10 + c));
    }

    private void paths() {
        for (int n = 1; n <= 12; n++) put(x.paths(n));
        for (int county = 0; county < 8; county++) {
            put(x.missed(2, 1 << county));
            put(x.missed(6, 255 - (1 << county)));
        }
        for (int part = 0; part <= 1000; part += 250) {
            put(x.box(3, part, 0));
            put(x.box(3, part, 1));
        }
        for (int k = 0; k <= 8; k++) {
            for (int what = 0; what <= 2; what++) put(x.posts(k, what));
        }
    }

    private void warnings() {
        for (int what = 0; what <= 5; what++) put(x.look(what));
        for (int w = 0; w < 12; w++) {
            for (int what = 0; what <= 4; what++) put(x.warning(w, what));
        }
        for (int w = 190; w < 201; w++) {
            for (int what = 0; what <= 4; what++) put(x.warning(w, what));
        }
    }

    private void asked() {
        for (int county = 0; county < 8; county++) {
            for (int what = 0; what <= 9; what++) put(x.asks(county, what));
        }
        put(x.fault(0));
        put(x.fault(1));
    }

    private void truth() {
        for (int county = 0; county < 8; county++) {
            for (int what = 0; what <= 2; what++) put(x.entries(county, what));
        }
        for (int t = Math.max(0, now - 24); t <= now; t++) put(x.found(t, t));
        for (int t = Math.max(0, now - 6); t <= now; t += 2) {
            for (int c = 0; c < 96; c += 4) put(x.safe(t, c));
        }
    }

    private void tape() {
        put(Edges.is(x.end(41)));
        put(Edges.is(x.end(40)));
        put(x.feed(0x20202020, 0x20202020, 0x20202020, 0x20202020, 0x20202020));
        put(x.rules());
        put(x.fault(0));
        put(x.fault(1));
        for (int county = 0; county < 8; county++) put(x.asks(county, 9));
    }

    /** Whether RULES are ON shows only when MINUTES go by. */
    private void later() {
        put(x.minutes(6));
        put(x.judge());
        warnings();
        for (int county = 0; county < 8; county++) put(x.asks(county, 7));
    }
}
