import java.util.Arrays;

/**
 * An office for storms that turn: where the heart of one may be, which counties are warned,
 * who is safe, and how the warnings are judged. See README.md.
 */
public final class StormOffice {
    public static final int NONE = -1;

    private static final int CELLS = 96;
    private static final int WIDTH = 12;
    private static final int HEIGHT = 8;
    private static final int HALF = 48;
    private static final int HALF_ROWS = 4;
    private static final int MINUTES = 720;
    private static final int COUNTIES = 8;
    private static final int BOXES = 256;
    private static final int PEOPLE_MOST = 999;
    private static final int SHELTER_MOST = 30;
    private static final int SHELTER_FIRST = 10;
    private static final int MOVE_KINDS = 9;
    private static final int ALL_MOVES = 511;
    private static final int RADARS = 3;
    private static final int RANGE_MOST = 11;
    private static final int OFF_MOST = 3;

    private static final int TELLINGS = 300;
    private static final int DOUBT_MOST = 5;
    private static final int UNSURE_DOUBT = -1;
    private static final int RECENT = 10;
    private static final int SORT_SEEN = 0;
    private static final int SORT_SURE = 1;
    private static final int SORT_UNSURE = 2;
    private static final int SORT_BARE = 3;

    private static final int STEPS_MOST = 12;
    private static final int PARTS = 1000;
    private static final int NEVER_SOON = 99;

    private static final int TAPE_MOST = 800;
    private static final int FEED_BYTES = 20;
    private static final int LINES_MOST = 16;
    private static final int OPEN_MOST = 8;
    private static final int DIGITS_MOST = 4;
    private static final int STACK = 32;

    // The token of a keyword is its place in this text; those from seen on are in the order of asks().
    private static final String KEYWORDS =
            "warn lift wait when or and not seen words doubtful near soon people left ears hour ";
    private static final int T_WARN = 0;
    private static final int T_LIFT = 1;
    private static final int T_WAIT = 2;
    private static final int T_WHEN = 3;
    private static final int T_OR = 4;
    private static final int T_AND = 5;
    private static final int T_NOT = 6;
    private static final int T_FIRST_ASKED = 7;
    private static final int T_LAST_ASKED = 15;
    private static final int T_NUMBER = 16;
    private static final int T_END = 17;
    private static final int T_NOTHING = 18;
    // A sign's token is its own character, all of which lie above the tokens here.
    private static final String SIGNS = ";+-*/()<=>";

    private static final int FAULT_TOKEN = 1;
    private static final int FAULT_ZERO = 2;
    private static final int FAULT_MANY = 3;

    private static final int ASKED = 9;
    private static final int WARNINGS = 200;
    private static final int WARN_MOST = 60;
    private static final int PASS_MOST = 60;
    private static final int EARS_MOST = 100;
    private static final int EARS_LEAST = 10;
    private static final int EARS_GAIN = 5;
    private static final int EARS_LOSS = 10;
    private static final int HEARD_LATE = 5;
    private static final int NOT_JUDGED = 0;
    private static final int RIGHT = 1;
    private static final int FALSE = 2;

    private static final int POSTS = 8;
    private static final int POST_SETS = 256;
    private static final int EYES_MOST = 5;

    private final Land land;
    private final Radar[] radars;
    private final Tellings tellings;
    private final Heart heart;
    private final Walks walks;
    private final Reader reader;
    private final Warnings warnings;
    private final TruePath truePath;
    private final Lookouts lookouts;
    private final int[] answers;
    private final CellSet here;
    private final CellSet hidden;
    private Rules inForce;
    private Rules spare;
    private boolean ruled;
    private int now;

    public StormOffice() {
        land = new Land();
        radars = new Radar[] {new Radar(), new Radar(), new Radar()};
        tellings = new Tellings();
        heart = new Heart(radars, tellings);
        walks = new Walks(land);
        warnings = new Warnings(land);
        truePath = new TruePath(land, warnings);
        lookouts = new Lookouts(land);
        answers = new int[ASKED];
        here = new CellSet();
        hidden = new CellSet();
        inForce = new Rules();
        spare = new Rules();
        reader = new Reader(spare);
    }

    public boolean land(int c, int county, int people, int shelter) {
        if (!isCell(c) || !isCounty(county) || !within(people, 0, PEOPLE_MOST) || !within(shelter, 0, SHELTER_MOST)) {
            return false;
        }
        land.settle(c, county, people, shelter);
        return true;
    }

    public boolean siren(int c, boolean is) {
        if (!isCell(c)) {
            return false;
        }
        land.sirens.set(c, is);
        return true;
    }

    public boolean storm(int moves, int start) {
        if (!within(moves, 1, ALL_MOVES) || !within(start, 0, MINUTES - 1)) {
            return false;
        }
        heart.begin(moves, start);
        return true;
    }

    public boolean radar(int r, int c, int range, int off) {
        if (!within(r, 0, RADARS - 1) || !isCell(c) || !within(range, 0, RANGE_MOST) || !within(off, 0, OFF_MOST)) {
            return false;
        }
        radars[r].place(c, range, off);
        heart.forget();
        return true;
    }

    public boolean blind(int r, int c, boolean is) {
        if (!isRadar(r) || !isCell(c) || radars[r].isBlind(c) == is) {
            return false;
        }
        radars[r].turnBlind(c, is);
        heart.forget();
        return true;
    }

    public int of(int c, int what) {
        if (!isCell(c)) {
            return NONE;
        }
        switch (what) {
            case 0: return land.countyAt(c);
            case 1: return land.peopleAt(c);
            case 2: return land.shelterAt(c);
            case 3: return land.sirens.has(c) ? 1 : 0;
            case 4: return radarsThatSee(c);
            default: return NONE;
        }
    }

    public boolean seen(int r, int t, int c) {
        return isRadar(r) && isPast(t) && isCell(c) && tellings.add(SORT_SEEN, t, c, r, now);
    }

    public boolean bare(int r, int t) {
        return isRadar(r) && isPast(t) && tellings.add(SORT_BARE, t, 0, r, now);
    }

    public boolean word(int t, int c, int doubt) {
        if (!isPast(t) || !isCell(c) || !within(doubt, UNSURE_DOUBT, DOUBT_MOST)) {
            return false;
        }
        return tellings.add(doubt == UNSURE_DOUBT ? SORT_UNSURE : SORT_SURE, t, c, doubt, now);
    }

    public int maybe(int t, int k, int c) {
        if (!within(t, 0, MINUTES - 1) || !isPast(k) || !isCell(c)) {
            return NONE;
        }
        heart.locate(t, tellings.knownAt(k), here);
        return here.has(c) ? 1 : 0;
    }

    public int count(int t, int k, int what) {
        boolean known = what == 0 || what == 1 || within(what, 10, 10 + CELLS - 1);
        if (!within(t, 0, MINUTES - 1) || !isPast(k) || !known) {
            return NONE;
        }
        if (what == 0) {
            heart.locate(t, tellings.knownAt(k), here);
            return here.size();
        }
        heart.locateAfter(t, tellings.knownAt(k), here);
        if (what == 1) {
            return here.size();
        }
        return here.has(what - 10) ? 1 : 0;
    }

    public int quarrel(int k) {
        return isPast(k) ? heart.firstEmpty(k, tellings.knownAt(k)) : NONE;
    }

    public long paths(int n) {
        if (!isSpan(n)) {
            return NONE;
        }
        startWalks(n);
        return walks.all();
    }

    public long missed(int n, int box) {
        if (!isSpan(n) || !within(box, 0, BOXES - 1)) {
            return NONE;
        }
        startWalks(n);
        return walks.all() - walks.within(box);
    }

    public int box(int n, int part, int what) {
        if (!isSpan(n) || !within(part, 0, PARTS) || !within(what, 0, 1)) {
            return NONE;
        }
        startWalks(n);
        int best = walks.bestBox(part);
        return what == 0 ? best : land.peopleOfBox(best);
    }

    public int feed(int a, int b, int c, int d, int e) {
        if (!reader.hasRoom()) {
            return NONE;
        }
        reader.put(a);
        reader.put(b);
        reader.put(c);
        reader.put(d);
        reader.put(e);
        return reader.length();
    }

    public boolean end(int n) {
        return reader.cut(n);
    }

    public int rules() {
        if (!reader.read(spare)) {
            return NONE;
        }
        Rules old = inForce;
        inForce = spare;
        spare = old;
        return inForce.size();
    }

    public int fault(int what) {
        switch (what) {
            case 0: return reader.wrong();
            case 1: return reader.wrongPlace();
            default: return NONE;
        }
    }

    public void on(boolean is) {
        ruled = is;
    }

    public int asks(int county, int what) {
        if (!isCounty(county) || !within(what, 0, ASKED)) {
            return NONE - 1;
        }
        fillAnswers(county);
        return what == ASKED ? inForce.firstTrue(answers) : answers[what];
    }

    public int minutes(int n) {
        if (!within(n, 1, PASS_MOST) || now + n >= MINUTES) {
            return NONE;
        }
        for (int i = 0; i < n; i++) {
            if (ruled) {
                obeyRules();
            }
            now++;
        }
        return now;
    }

    public int warn(int county, int minutes) {
        if (!isCounty(county) || !within(minutes, 1, WARN_MOST)) {
            return NONE;
        }
        return warnings.issue(county, now, minutes);
    }

    public boolean lift(int county) {
        return isCounty(county) && warnings.stop(county, now);
    }

    public int warning(int w, int what) {
        return warnings.tell(w, what);
    }

    public int look(int what) {
        switch (what) {
            case 0: return now;
            case 1: return tellings.size();
            case 2: return warnings.size();
            case 3: return warnings.running(now);
            case 4: return warnings.judgedAs(RIGHT) + warnings.judgedAs(FALSE);
            case 5: return warnings.judgedAs(FALSE);
            default: return NONE;
        }
    }

    public boolean truth(int t, int c) {
        if (!isPast(t) || !within(c, NONE, CELLS - 1)) {
            return false;
        }
        truePath.tell(t, c);
        return true;
    }

    public int safe(int t, int c) {
        return isPast(t) && isCell(c) ? warnings.safeAt(t, c) : NONE;
    }

    public int found(int a, int b) {
        if (!isPast(a) || !isPast(b) || a > b) {
            return NONE;
        }
        int sum = 0;
        for (int t = a; t <= b; t++) {
            sum += truePath.foundAt(t);
        }
        return sum;
    }

    public int judge() {
        int judged = 0;
        for (int w = 0; w < warnings.size(); w++) {
            if (warnings.isDue(w, now)) {
                warnings.settle(w, truePath.provesRight(w));
                judged++;
            }
        }
        return judged;
    }

    public int entries(int county, int what) {
        if (!isCounty(county) || !within(what, 0, 2)) {
            return NONE;
        }
        int sum = 0;
        for (int t = 0; t <= now; t++) {
            if (truePath.enters(county, t)) {
                sum += entryCounts(county, t, what);
            }
        }
        return sum;
    }

    public boolean post(int p, int c, int eyes) {
        if (!within(p, 0, POSTS - 1) || !isCell(c) || !within(eyes, 0, EYES_MOST)) {
            return false;
        }
        lookouts.place(p, c, eyes);
        return true;
    }

    public int posts(int k, int what) {
        if (!within(k, 0, lookouts.size()) || !within(what, 0, 2)) {
            return NONE;
        }
        hidden.fill();
        for (int r = 0; r < RADARS; r++) {
            hidden.drop(radars[r].sight);
        }
        lookouts.choose(k, hidden);
        switch (what) {
            case 0: return lookouts.bestSet();
            case 1: return lookouts.bestPeople();
            default: return lookouts.bestCells();
        }
    }

    private static boolean within(int value, int least, int most) {
        return value >= least && value <= most;
    }

    private static boolean isCell(int c) {
        return within(c, 0, CELLS - 1);
    }

    private static boolean isCounty(int county) {
        return within(county, 0, COUNTIES - 1);
    }

    private static boolean isSpan(int n) {
        return within(n, 1, STEPS_MOST);
    }

    private boolean isPast(int t) {
        return within(t, 0, now);
    }

    private boolean isRadar(int r) {
        return within(r, 0, RADARS - 1) && radars[r].isThere();
    }

    private int radarsThatSee(int c) {
        int set = 0;
        for (int r = 0; r < RADARS; r++) {
            if (radars[r].sight.has(c)) {
                set |= 1 << r;
            }
        }
        return set;
    }

    private void startWalks(int n) {
        heart.locate(now, tellings.size(), here);
        walks.begin(here, heart.moves(), n);
    }

    private void fillAnswers(int county) {
        CellSet cells = land.cellsOf(county);
        answers[0] = tellings.recentIn(cells, SORT_SEEN, now);
        answers[1] = tellings.recentIn(cells, SORT_SURE, now);
        answers[2] = tellings.recentIn(cells, SORT_UNSURE, now);
        heart.locate(now, tellings.size(), here);
        answers[3] = here.sizeWith(cells);
        answers[4] = soonIn(cells);
        answers[5] = land.peopleOf(county);
        answers[6] = warnings.left(county, now);
        answers[7] = warnings.earsOf(county);
        answers[8] = now / 60;
    }

    /** Spreads what is here, so it comes behind all that asks where the heart is NOW. */
    private int soonIn(CellSet cells) {
        for (int after = 0; after <= STEPS_MOST; after++) {
            if (here.sizeWith(cells) > 0) {
                return after;
            }
            here.spread(heart.moves());
        }
        return NEVER_SOON;
    }

    private void obeyRules() {
        if (inForce.size() == 0) {
            return;
        }
        for (int county = 0; county < COUNTIES; county++) {
            fillAnswers(county);
            int line = inForce.firstTrue(answers);
            int deed = inForce.deed(line);
            if (deed == T_WARN) {
                warnings.issue(county, now, inForce.span(line, answers));
            } else if (deed == T_LIFT) {
                warnings.stop(county, now);
            }
        }
    }

    private int entryCounts(int county, int t, int what) {
        int w = warnings.at(county, t);
        if (what == 0) {
            return 1;
        }
        if (what == 1) {
            return w == NONE ? 1 : 0;
        }
        return w == NONE ? 0 : t - warnings.beginOf(w);
    }

    /** A set of CELLS: rows y 0 .. 3 in one long, 4 .. 7 in another, twelve bits a row. */
    private static final class CellSet {
        private static final long FULL = 0xFFFFFFFFFFFFL;
        private static final long ROW = 0xFFFL;
        private static final long WEST_EDGE = 0x001001001001L;
        private static final long EAST_EDGE = 0x800800800800L;
        private static final int TO_LAST_ROW = 36;

        long low;
        long high;

        void fill() {
            load(FULL, FULL);
        }

        void clear() {
            load(0, 0);
        }

        void copy(CellSet other) {
            load(other.low, other.high);
        }

        void load(long lowRows, long highRows) {
            low = lowRows;
            high = highRows;
        }

        boolean has(int c) {
            return c < HALF ? (low >>> c & 1) != 0 : (high >>> (c - HALF) & 1) != 0;
        }

        void set(int c, boolean is) {
            if (c < HALF) {
                low = is ? low | 1L << c : low & ~(1L << c);
            } else {
                high = is ? high | 1L << (c - HALF) : high & ~(1L << (c - HALF));
            }
        }

        void keep(CellSet other) {
            low &= other.low;
            high &= other.high;
        }

        void drop(CellSet other) {
            low &= ~other.low;
            high &= ~other.high;
        }

        void join(CellSet other) {
            low |= other.low;
            high |= other.high;
        }

        int size() {
            return Long.bitCount(low) + Long.bitCount(high);
        }

        int sizeWith(CellSet other) {
            return Long.bitCount(low & other.low) + Long.bitCount(high & other.high);
        }

        /** Becomes all CELLS no farther from c than told. */
        void circle(int c, int far) {
            int x = c % WIDTH;
            int y = c / WIDTH;
            int west = Math.max(0, x - far);
            int east = Math.min(WIDTH - 1, x + far);
            int lastRow = Math.min(HEIGHT - 1, y + far);
            long row = (1L << (east + 1)) - (1L << west);
            low = 0;
            high = 0;
            for (int at = Math.max(0, y - far); at <= lastRow; at++) {
                if (at < HALF_ROWS) {
                    low |= row << (WIDTH * at);
                } else {
                    high |= row << (WIDTH * (at - HALF_ROWS));
                }
            }
        }

        /** Becomes all CELLS to which one of the moves goes from a CELL of it. */
        void spread(int moves) {
            int up = moves & 7;
            int level = moves >> 3 & 7;
            int down = moves >> 6 & 7;
            long lowUp = sideways(low, up);
            long highUp = sideways(high, up);
            long lowDown = sideways(low, down);
            long highDown = sideways(high, down);
            low = sideways(low, level) | lowUp >>> WIDTH | (highUp & ROW) << TO_LAST_ROW
                    | lowDown << WIDTH & FULL;
            high = sideways(high, level) | highUp >>> WIDTH
                    | lowDown >>> TO_LAST_ROW | highDown << WIDTH & FULL;
        }

        private static long sideways(long rows, int moves) {
            long moved = 0;
            if ((moves & 1) != 0) {
                moved |= (rows & ~WEST_EDGE) >>> 1;
            }
            if ((moves & 2) != 0) {
                moved |= rows;
            }
            if ((moves & 4) != 0) {
                moved |= (rows & ~EAST_EDGE) << 1;
            }
            return moved;
        }
    }

    /** What stands on the CELLS; each COUNTY's CELLS and PEOPLE are kept beside, as they are asked most. */
    private static final class Land {
        private final int[] county = new int[CELLS];
        private final int[] people = new int[CELLS];
        private final int[] shelter = new int[CELLS];
        private final CellSet[] members = new CellSet[COUNTIES];
        private final int[] crowd = new int[COUNTIES];
        final CellSet sirens = new CellSet();

        Land() {
            Arrays.fill(shelter, SHELTER_FIRST);
            for (int i = 0; i < COUNTIES; i++) {
                members[i] = new CellSet();
            }
            members[0].fill();
        }

        void settle(int c, int newCounty, int newPeople, int newShelter) {
            members[county[c]].set(c, false);
            crowd[county[c]] -= people[c];
            county[c] = newCounty;
            people[c] = newPeople;
            shelter[c] = newShelter;
            members[newCounty].set(c, true);
            crowd[newCounty] += newPeople;
        }

        int countyAt(int c) {
            return county[c];
        }

        int peopleAt(int c) {
            return people[c];
        }

        int shelterAt(int c) {
            return shelter[c];
        }

        CellSet cellsOf(int number) {
            return members[number];
        }

        int peopleOf(int number) {
            return crowd[number];
        }

        int peopleOfBox(int box) {
            int sum = 0;
            for (int i = 0; i < COUNTIES; i++) {
                if ((box >> i & 1) != 0) {
                    sum += crowd[i];
                }
            }
            return sum;
        }

        int peopleIn(CellSet cells) {
            int sum = 0;
            for (int c = 0; c < CELLS; c++) {
                if (cells.has(c)) {
                    sum += people[c];
                }
            }
            return sum;
        }

        /** The COUNTIES that have PEOPLE within these CELLS. */
        int countiesWithPeopleIn(CellSet cells) {
            int box = 0;
            for (int c = 0; c < CELLS; c++) {
                if (people[c] > 0 && cells.has(c)) {
                    box |= 1 << county[c];
                }
            }
            return box;
        }

        /** Leaves the CELLS that a PATH may touch without being MISSED by the box. */
        void fillHarmless(int box, CellSet cells) {
            cells.clear();
            for (int c = 0; c < CELLS; c++) {
                if (people[c] == 0 || (box >> county[c] & 1) != 0) {
                    cells.set(c, true);
                }
            }
        }
    }

    /** A RADAR; it sees nothing until it has been placed. */
    private static final class Radar {
        final CellSet sight = new CellSet();
        private final CellSet reach = new CellSet();
        private final CellSet blinded = new CellSet();
        private boolean there;
        private int off;

        void place(int c, int range, int newOff) {
            there = true;
            off = newOff;
            reach.circle(c, range);
            blinded.clear();
            renewSight();
        }

        void turnBlind(int c, boolean is) {
            blinded.set(c, is);
            renewSight();
        }

        boolean isThere() {
            return there;
        }

        boolean isBlind(int c) {
            return blinded.has(c);
        }

        int off() {
            return off;
        }

        private void renewSight() {
            sight.copy(reach);
            sight.drop(blinded);
        }
    }

    /** The TELLINGS in the order they came; those of one MINUTE hang together, the latest first. */
    private static final class Tellings {
        private final int[] sort = new int[TELLINGS];
        private final int[] minute = new int[TELLINGS];
        private final int[] cell = new int[TELLINGS];
        private final int[] measure = new int[TELLINGS];
        private final int[] told = new int[TELLINGS];
        private final int[] earlier = new int[TELLINGS];
        private final int[] latest = new int[MINUTES];
        private int size;

        Tellings() {
            Arrays.fill(latest, NONE);
        }

        /** The measure is the RADAR of a sweep, the DOUBT of a WORD. */
        boolean add(int newSort, int t, int c, int newMeasure, int now) {
            if (size >= TELLINGS) {
                return false;
            }
            sort[size] = newSort;
            minute[size] = t;
            cell[size] = c;
            measure[size] = newMeasure;
            told[size] = now;
            earlier[size] = latest[t];
            latest[t] = size;
            size++;
            return true;
        }

        int size() {
            return size;
        }

        /** NOW never goes back, so those known at a MINUTE are always the first ones. */
        int knownAt(int k) {
            int known = size;
            while (known > 0 && told[known - 1] > k) {
                known--;
            }
            return known;
        }

        int lastSureMinute(int known) {
            int last = NONE;
            for (int i = 0; i < known && i < size; i++) {
                if (sort[i] != SORT_UNSURE) {
                    last = Math.max(last, minute[i]);
                }
            }
            return last;
        }

        int recentIn(CellSet cells, int ofSort, int now) {
            int found = 0;
            for (int t = Math.max(0, now - RECENT + 1); t <= now; t++) {
                for (int i = latest[t], left = size; i >= 0 && left > 0; i = earlier[i], left--) {
                    if (sort[i] == ofSort && cells.has(cell[i])) {
                        found++;
                    }
                }
            }
            return found;
        }

        /** Leaves of the CELLS those that all TELLINGS of the MINUTE allow, of the first ones that are known. */
        void narrow(int t, int known, CellSet cells, CellSet scratch, Radar[] radars) {
            for (int i = latest[t], left = size; i >= 0 && left > 0; i = earlier[i], left--) {
                if (i >= known || sort[i] == SORT_UNSURE) {
                    continue;
                }
                if (sort[i] == SORT_BARE) {
                    cells.drop(radars[measure[i]].sight);
                } else {
                    scratch.circle(cell[i], sort[i] == SORT_SEEN ? radars[measure[i]].off() : measure[i]);
                    cells.keep(scratch);
                }
            }
        }
    }

    /** MAYBE, AFTER and QUARREL; the rows of MAYBE are kept as long as what they rest on stays. */
    private static final class Heart {
        private final Radar[] radars;
        private final Tellings tellings;
        private final long[] lows = new long[MINUTES];
        private final long[] highs = new long[MINUTES];
        private final CellSet cells = new CellSet();
        private final CellSet scratch = new CellSet();
        private int moves = ALL_MOVES;
        private int start;
        private int keptKnown;
        private int keptMinutes;

        Heart(Radar[] allRadars, Tellings allTellings) {
            radars = allRadars;
            tellings = allTellings;
        }

        void begin(int newMoves, int newStart) {
            moves = newMoves;
            start = newStart;
            forget();
        }

        void forget() {
            keptMinutes = 0;
        }

        int moves() {
            return moves;
        }

        /** Puts MAYBE at t into the set, by the first TELLINGS that are known. */
        void locate(int t, int known, CellSet into) {
            reach(t, known);
            into.load(lows[t], highs[t]);
        }

        void locateAfter(int t, int known, CellSet into) {
            int last = tellings.lastSureMinute(known);
            reach(Math.max(t, last), known);
            if (t >= last) {
                into.load(lows[t], highs[t]);
                return;
            }
            into.load(lows[last], highs[last]);
            int back = movesBack();
            for (int minute = last - 1; minute >= t; minute--) {
                into.spread(back);
                scratch.load(lows[minute], highs[minute]);
                into.keep(scratch);
            }
        }

        int firstEmpty(int k, int known) {
            reach(k, known);
            for (int t = start; t <= k; t++) {
                if (lows[t] == 0 && highs[t] == 0) {
                    return t;
                }
            }
            return NONE;
        }

        private void reach(int t, int known) {
            if (known != keptKnown) {
                forget();
                keptKnown = known;
            }
            for (int minute = keptMinutes; minute <= t; minute++) {
                if (minute < start) {
                    cells.clear();
                } else if (minute == start) {
                    cells.fill();
                } else {
                    cells.load(lows[minute - 1], highs[minute - 1]);
                    cells.spread(moves);
                }
                tellings.narrow(minute, known, cells, scratch, radars);
                lows[minute] = cells.low;
                highs[minute] = cells.high;
            }
            keptMinutes = Math.max(keptMinutes, t + 1);
        }

        /** MOVE b goes from where MOVE 8 - b would come to. */
        private int movesBack() {
            int back = 0;
            for (int b = 0; b < MOVE_KINDS; b++) {
                back |= (moves >> b & 1) << (MOVE_KINDS - 1 - b);
            }
            return back;
        }
    }

    /** PATHS counted by how many lead to each CELL. */
    private static final class Walks {
        private final Land land;
        private final CellSet first = new CellSet();
        private final CellSet allowed = new CellSet();
        private final CellSet reached = new CellSet();
        private final CellSet met = new CellSet();
        private final int[] targets = new int[CELLS * MOVE_KINDS];
        private final int[] targetsFrom = new int[CELLS + 1];
        private final long[] ways = new long[CELLS];
        private final long[] nextWays = new long[CELLS];
        private final boolean[] hopeless = new boolean[BOXES];
        private int steps;
        private int moves;

        Walks(Land allLand) {
            land = allLand;
        }

        void begin(CellSet from, int byMoves, int n) {
            first.copy(from);
            steps = n;
            if (moves != byMoves) {
                moves = byMoves;
                listTargets();
            }
        }

        long all() {
            allowed.fill();
            return walk();
        }

        long within(int box) {
            land.fillHarmless(box, allowed);
            return walk();
        }

        /**
         * A COUNTY that no PATH meets PEOPLE in makes a box dearer and misses no fewer, so only the
         * others are looked at; and a box that misses too many has only such boxes within it.
         */
        int bestBox(int part) {
            long total = all();
            int useful = usefulCounties();
            int best = useful;
            for (int box = BOXES - 1; box >= 0; box--) {
                hopeless[box] = false;
                if ((box & ~useful) != 0) {
                    continue;
                }
                hopeless[box] = isWithinHopeless(box, useful);
                if (hopeless[box] || !isBetter(box, best)) {
                    continue;
                }
                if ((total - within(box)) * PARTS <= part * total) {
                    best = box;
                } else {
                    hopeless[box] = true;
                }
            }
            return best;
        }

        private int usefulCounties() {
            reached.copy(first);
            met.copy(first);
            for (int i = 0; i < steps; i++) {
                reached.spread(moves);
                met.join(reached);
            }
            return land.countiesWithPeopleIn(met);
        }

        private boolean isWithinHopeless(int box, int useful) {
            for (int i = 0; i < COUNTIES; i++) {
                int bit = 1 << i;
                if ((useful & bit) != 0 && (box & bit) == 0 && hopeless[box | bit]) {
                    return true;
                }
            }
            return false;
        }

        private boolean isBetter(int box, int best) {
            int people = land.peopleOfBox(box);
            int bestPeople = land.peopleOfBox(best);
            if (people != bestPeople) {
                return people < bestPeople;
            }
            int size = Integer.bitCount(box);
            int bestSize = Integer.bitCount(best);
            return size != bestSize ? size < bestSize : box < best;
        }

        private void listTargets() {
            int size = 0;
            for (int c = 0; c < CELLS; c++) {
                targetsFrom[c] = size;
                for (int b = 0; b < MOVE_KINDS; b++) {
                    int x = c % WIDTH + b % 3 - 1;
                    int y = c / WIDTH + b / 3 - 1;
                    boolean onLand = x >= 0 && x < WIDTH && y >= 0 && y < HEIGHT;
                    if (onLand && (moves >> b & 1) != 0) {
                        targets[size] = y * WIDTH + x;
                        size++;
                    }
                }
            }
            targetsFrom[CELLS] = size;
        }

        private long walk() {
            for (int c = 0; c < CELLS; c++) {
                ways[c] = first.has(c) && allowed.has(c) ? 1 : 0;
            }
            for (int i = 0; i < steps; i++) {
                takeStep();
            }
            long sum = 0;
            for (int c = 0; c < CELLS; c++) {
                sum += ways[c];
            }
            return sum;
        }

        private void takeStep() {
            Arrays.fill(nextWays, 0);
            for (int c = 0; c < CELLS; c++) {
                long here = ways[c];
                if (here == 0) {
                    continue;
                }
                int until = targetsFrom[c + 1];
                for (int i = targetsFrom[c]; i < until; i++) {
                    nextWays[targets[i]] += here;
                }
            }
            for (int c = 0; c < CELLS; c++) {
                ways[c] = allowed.has(c) ? nextWays[c] : 0;
            }
        }
    }

    /** RULES as rows of tokens, each behind what it works on, so that a stack can reckon them. */
    private static final class Rules {
        private final int[] tokens = new int[TAPE_MOST];
        private final int[] numbers = new int[TAPE_MOST];
        private final int[] deeds = new int[LINES_MOST];
        private final int[] spanFrom = new int[LINES_MOST];
        private final int[] whenFrom = new int[LINES_MOST];
        private final int[] whenUntil = new int[LINES_MOST];
        private final int[] stack = new int[STACK];
        private int length;
        private int lines;

        void clear() {
            length = 0;
            lines = 0;
        }

        int size() {
            return lines;
        }

        /** Each comes from a token of its own, so the fullest TAPE has room; true if it had. */
        boolean add(int token, int number) {
            if (length >= TAPE_MOST) {
                return false;
            }
            tokens[length] = token;
            numbers[length] = number;
            length++;
            return true;
        }

        void openLine(int deed) {
            if (lines < LINES_MOST) {
                deeds[lines] = deed;
                spanFrom[lines] = length;
            }
        }

        void openWhen() {
            if (lines < LINES_MOST) {
                whenFrom[lines] = length;
            }
        }

        void closeLine() {
            if (lines < LINES_MOST) {
                whenUntil[lines] = length;
                lines++;
            }
        }

        int firstTrue(int[] answers) {
            for (int line = 0; line < lines; line++) {
                if (reckon(whenFrom[line], whenUntil[line], answers) != 0) {
                    return line;
                }
            }
            return NONE;
        }

        int deed(int line) {
            return line >= 0 && line < lines ? deeds[line] : T_WAIT;
        }

        int span(int line, int[] answers) {
            if (line < 0 || line >= lines) {
                return 1;
            }
            return Math.max(1, Math.min(WARN_MOST, reckon(spanFrom[line], whenFrom[line], answers)));
        }

        private int reckon(int from, int until, int[] answers) {
            int top = 0;
            for (int i = from; i < until; i++) {
                int token = tokens[i];
                int needs = operands(token);
                if (top < needs || top - needs >= STACK) {
                    return 0;
                }
                top -= needs;
                if (token == T_NUMBER) {
                    stack[top] = numbers[i];
                } else if (needs == 0) {
                    stack[top] = answers[token - T_FIRST_ASKED];
                } else if (token == T_NOT) {
                    stack[top] = 1 - stack[top];
                } else if (token == '/') {
                    stack[top] = numbers[i] == 0 ? 0 : stack[top] / numbers[i];
                } else {
                    stack[top] = join(token, stack[top], stack[top + 1]);
                }
                top++;
            }
            return top == 1 ? stack[0] : 0;
        }

        private static int operands(int token) {
            if (token == T_NUMBER || token >= T_FIRST_ASKED && token <= T_LAST_ASKED) {
                return 0;
            }
            return token == T_NOT || token == '/' ? 1 : 2;
        }

        private static int join(int token, int left, int right) {
            switch (token) {
                case '+': return left + right;
                case '-': return left - right;
                case '*': return left * right;
                case '<': return left < right ? 1 : 0;
                case '=': return left == right ? 1 : 0;
                case '>': return left > right ? 1 : 0;
                case T_AND: return left & right;
                case T_OR: return left | right;
                default: return 0;
            }
        }
    }

    /** The TAPE, and how it is read as RULES; it stops at the first FAULT, which so is the first by place. */
    private static final class Reader {
        private final int[] tape = new int[TAPE_MOST];
        private final int[] tokens = new int[TAPE_MOST + 1];
        private final int[] numbers = new int[TAPE_MOST + 1];
        private final int[] places = new int[TAPE_MOST + 1];
        private int length;
        private int next;
        private int at;
        private int token;
        private int wrong;
        private int wrongPlace = NONE;
        private Rules rules;

        Reader(Rules first) {
            rules = first;
        }

        boolean hasRoom() {
            return length + FEED_BYTES <= TAPE_MOST;
        }

        void put(int four) {
            for (int shift = 24; shift >= 0 && length < TAPE_MOST; shift -= 8) {
                tape[length] = four >>> shift & 255;
                length++;
            }
        }

        int length() {
            return length;
        }

        boolean cut(int n) {
            if (n < 0 || n > length) {
                return false;
            }
            length = n;
            return true;
        }

        int wrong() {
            return wrong;
        }

        int wrongPlace() {
            return wrongPlace;
        }

        /** Whether the TAPE, which is empty then, is without a FAULT. */
        boolean read(Rules into) {
            rules = into;
            rules.clear();
            wrong = 0;
            wrongPlace = NONE;
            scan();
            at = 0;
            token = tokens[0];
            boolean good = true;
            for (int i = 0; i <= LINES_MOST && good && token != T_END; i++) {
                good = readLine();
            }
            length = 0;
            return good;
        }

        private boolean readLine() {
            int deed = token;
            if (deed != T_WARN && deed != T_LIFT && deed != T_WAIT) {
                return refuse(FAULT_TOKEN);
            }
            if (rules.size() >= LINES_MOST) {
                return refuse(FAULT_MANY);
            }
            advance();
            rules.openLine(deed);
            if (deed == T_WARN && !readSum()) {
                return false;
            }
            rules.openWhen();
            if (!take(T_WHEN) || !readAny(0) || !take(';')) {
                return false;
            }
            rules.closeLine();
            return true;
        }

        /** An or waits until the row of ands behind it has ended. */
        private boolean readAny(int open) {
            boolean good = readCondition(open);
            boolean waits = false;
            for (int i = 0; i < TAPE_MOST && good && (token == T_OR || token == T_AND); i++) {
                boolean both = token == T_AND;
                if (!both && waits) {
                    rules.add(T_OR, 0);
                }
                advance();
                good = readCondition(open);
                if (both) {
                    rules.add(T_AND, 0);
                } else {
                    waits = true;
                }
            }
            if (waits) {
                rules.add(T_OR, 0);
            }
            return good;
        }

        private boolean readCondition(int open) {
            boolean negated = token == T_NOT;
            if (negated || token == '(') {
                if (open >= OPEN_MOST) {
                    return refuse(FAULT_MANY);
                }
                advance();
                return negated
                        ? readCondition(open + 1) && rules.add(T_NOT, 0)
                        : readAny(open + 1) && take(')');
            }
            if (!readSum()) {
                return false;
            }
            int sign = token;
            if (sign != '<' && sign != '=' && sign != '>') {
                return refuse(FAULT_TOKEN);
            }
            advance();
            return readSum() && rules.add(sign, 0);
        }

        /** A + or - waits until the product behind it has ended. */
        private boolean readSum() {
            boolean good = readUnit();
            int waits = T_NOTHING;
            for (int i = 0; i < TAPE_MOST && good && isReckoning(token); i++) {
                int sign = token;
                boolean adds = sign == '+' || sign == '-';
                if (adds && waits != T_NOTHING) {
                    rules.add(waits, 0);
                }
                advance();
                good = sign == '/' ? readDivisor() : readUnit();
                if (adds) {
                    waits = sign;
                } else if (sign == '*') {
                    rules.add(sign, 0);
                }
            }
            if (waits != T_NOTHING) {
                rules.add(waits, 0);
            }
            return good;
        }

        private static boolean isReckoning(int sign) {
            return sign == '+' || sign == '-' || sign == '*' || sign == '/';
        }

        private boolean readUnit() {
            if (token != T_NUMBER && (token < T_FIRST_ASKED || token > T_LAST_ASKED)) {
                return refuse(FAULT_TOKEN);
            }
            rules.add(token, numbers[at]);
            advance();
            return true;
        }

        private boolean readDivisor() {
            if (token != T_NUMBER) {
                return refuse(FAULT_TOKEN);
            }
            if (numbers[at] == 0) {
                return refuse(FAULT_ZERO);
            }
            rules.add('/', numbers[at]);
            advance();
            return true;
        }

        private boolean take(int due) {
            if (token != due) {
                return refuse(FAULT_TOKEN);
            }
            advance();
            return true;
        }

        private boolean refuse(int kind) {
            wrong = kind;
            wrongPlace = places[at];
            return false;
        }

        private void advance() {
            if (at < TAPE_MOST && tokens[at] != T_END) {
                at++;
            }
            token = tokens[at];
        }

        /** A token takes a byte at least, so those of the fullest TAPE and the end have room. */
        private void scan() {
            next = 0;
            int size = 0;
            for (skipBlanks(); next < length && size < TAPE_MOST; skipBlanks()) {
                places[size] = next;
                numbers[size] = 0;
                if (isLetter(tape[next])) {
                    tokens[size] = scanWord();
                } else if (isDigit(tape[next])) {
                    scanNumber(size);
                } else {
                    tokens[size] = SIGNS.indexOf((char) tape[next]) >= 0 ? tape[next] : T_NOTHING;
                    next++;
                }
                size++;
            }
            tokens[size] = T_END;
            places[size] = length;
        }

        private void skipBlanks() {
            while (next < length && (tape[next] == ' ' || tape[next] == '\n')) {
                next++;
            }
        }

        private int scanWord() {
            int first = next;
            while (next < length && isLetter(tape[next])) {
                next++;
            }
            int keyword = 0;
            int from = 0;
            for (int i = 0; i < KEYWORDS.length(); i++) {
                if (KEYWORDS.charAt(i) == ' ') {
                    if (i - from == next - first && isKeyword(from, first, next)) {
                        return keyword;
                    }
                    keyword++;
                    from = i + 1;
                }
            }
            return T_NOTHING;
        }

        private boolean isKeyword(int from, int first, int until) {
            for (int i = first; i < until; i++) {
                if (tape[i] != KEYWORDS.charAt(from + i - first)) {
                    return false;
                }
            }
            return true;
        }

        private void scanNumber(int index) {
            int first = next;
            int value = 0;
            while (next < length && isDigit(tape[next])) {
                // Too long a row of digits is no NUMBER, so what it wraps to is never used.
                value = value * 10 + tape[next] - '0';
                next++;
            }
            tokens[index] = next - first <= DIGITS_MOST ? T_NUMBER : T_NOTHING;
            numbers[index] = value;
        }

        private static boolean isLetter(int sign) {
            return sign >= 'a' && sign <= 'z' || sign >= 'A' && sign <= 'Z';
        }

        private static boolean isDigit(int sign) {
            return sign >= '0' && sign <= '9';
        }
    }

    /** WARNINGS by their numbers, and the EARS of the COUNTIES. */
    private static final class Warnings {
        private final Land land;
        private final int[] county = new int[WARNINGS];
        private final int[] begin = new int[WARNINGS];
        private final int[] until = new int[WARNINGS];
        private final int[] keptEars = new int[WARNINGS];
        private final int[] verdict = new int[WARNINGS];
        // Where the SIRENS of the beginning were heard, as rows of a set of CELLS.
        private final long[] loudLow = new long[WARNINGS];
        private final long[] loudHigh = new long[WARNINGS];
        private final int[] latest = new int[COUNTIES];
        private final int[] ears = new int[COUNTIES];
        private final CellSet loud = new CellSet();
        private int size;

        Warnings(Land allLand) {
            land = allLand;
            Arrays.fill(latest, NONE);
            Arrays.fill(ears, EARS_MOST);
        }

        int size() {
            return size;
        }

        int earsOf(int number) {
            return ears[number];
        }

        int beginOf(int w) {
            return begin[w];
        }

        int issue(int number, int now, int span) {
            int w = current(number, now);
            if (w != NONE) {
                until[w] = Math.max(until[w], now + span);
                return w;
            }
            if (size >= WARNINGS) {
                return NONE;
            }
            open(number, now, now + span);
            return size - 1;
        }

        boolean stop(int number, int now) {
            int w = current(number, now);
            if (w == NONE) {
                return false;
            }
            until[w] = now;
            return true;
        }

        int left(int number, int now) {
            int w = current(number, now);
            return w == NONE ? 0 : until[w] - now;
        }

        int running(int now) {
            int sum = 0;
            for (int i = 0; i < COUNTIES; i++) {
                if (current(i, now) != NONE) {
                    sum++;
                }
            }
            return sum;
        }

        int judgedAs(int kind) {
            int sum = 0;
            for (int w = 0; w < size; w++) {
                if (verdict[w] == kind) {
                    sum++;
                }
            }
            return sum;
        }

        int tell(int w, int what) {
            if (w < 0 || w >= size) {
                return NONE;
            }
            switch (what) {
                case 0: return county[w];
                case 1: return begin[w];
                case 2: return until[w];
                case 3: return keptEars[w];
                case 4: return verdict[w];
                default: return NONE;
            }
        }

        /** The WARNING of the COUNTY that is there at a MINUTE: there is never more than one. */
        int at(int number, int t) {
            for (int w = 0; w < size; w++) {
                if (county[w] == number && begin[w] <= t && t < until[w]) {
                    return w;
                }
            }
            return NONE;
        }

        int safeAt(int t, int c) {
            int w = at(land.countyAt(c), t);
            if (w == NONE) {
                return 0;
            }
            loud.load(loudLow[w], loudHigh[w]);
            int heard = begin[w] + (loud.has(c) ? 0 : HEARD_LATE);
            return t >= heard + land.shelterAt(c) ? land.peopleAt(c) * keptEars[w] / 100 : 0;
        }

        boolean isDue(int w, int now) {
            return w >= 0 && w < size && verdict[w] == NOT_JUDGED && until[w] <= now;
        }

        void settle(int w, boolean right) {
            int number = county[w];
            verdict[w] = right ? RIGHT : FALSE;
            ears[number] = right
                    ? Math.min(EARS_MOST, ears[number] + EARS_GAIN)
                    : Math.max(EARS_LEAST, ears[number] - EARS_LOSS);
        }

        /** NOW never goes back, so only the latest one of a COUNTY can still be there. */
        private int current(int number, int now) {
            int w = latest[number];
            return w != NONE && now < until[w] ? w : NONE;
        }

        private void open(int number, int from, int to) {
            county[size] = number;
            begin[size] = from;
            until[size] = to;
            keptEars[size] = ears[number];
            verdict[size] = NOT_JUDGED;
            loud.copy(land.sirens);
            loud.spread(ALL_MOVES);
            loudLow[size] = loud.low;
            loudHigh[size] = loud.high;
            latest[number] = size;
            size++;
        }
    }

    /** THE TRUTH, as far as it is told. */
    private static final class TruePath {
        private final Land land;
        private final Warnings warnings;
        private final int[] cell = new int[MINUTES];

        TruePath(Land allLand, Warnings allWarnings) {
            land = allLand;
            warnings = allWarnings;
            Arrays.fill(cell, NONE);
        }

        void tell(int t, int c) {
            cell[t] = c;
        }

        int foundAt(int t) {
            int c = cellAt(t);
            if (c == NONE || cellAt(t - 1) == c) {
                return 0;
            }
            return land.peopleAt(c) - warnings.safeAt(t, c);
        }

        boolean enters(int county, int t) {
            return isIn(county, t) && !isIn(county, t - 1);
        }

        boolean provesRight(int w) {
            int county = warnings.tell(w, 0);
            int until = warnings.tell(w, 2);
            for (int t = warnings.beginOf(w); t < until; t++) {
                if (isIn(county, t)) {
                    return true;
                }
            }
            return false;
        }

        private boolean isIn(int county, int t) {
            int c = cellAt(t);
            return c != NONE && land.countyAt(c) == county;
        }

        private int cellAt(int t) {
            return t >= 0 && t < MINUTES ? cell[t] : NONE;
        }
    }

    /** POSTS for spotters, and the best of them. */
    private static final class Lookouts {
        private final Land land;
        private final CellSet[] views = new CellSet[POSTS];
        private final CellSet gained = new CellSet();
        private int told;
        private int bestSet;
        private int bestPeople;
        private int bestCells;

        Lookouts(Land allLand) {
            land = allLand;
            for (int p = 0; p < POSTS; p++) {
                views[p] = new CellSet();
            }
        }

        void place(int p, int c, int eyes) {
            views[p].circle(c, eyes);
            told |= 1 << p;
        }

        int size() {
            return Integer.bitCount(told);
        }

        int bestSet() {
            return bestSet;
        }

        int bestPeople() {
            return bestPeople;
        }

        int bestCells() {
            return bestCells;
        }

        /** Sets are tried from the least number on, so that an equal one never takes the place of it. */
        void choose(int k, CellSet hidden) {
            bestPeople = NONE;
            for (int set = 0; set < POST_SETS; set++) {
                if ((set & ~told) == 0 && Integer.bitCount(set) == k) {
                    gain(set, hidden);
                    weigh(set);
                }
            }
        }

        private void gain(int set, CellSet hidden) {
            gained.clear();
            for (int p = 0; p < POSTS; p++) {
                if ((set >> p & 1) != 0) {
                    gained.join(views[p]);
                }
            }
            gained.keep(hidden);
        }

        private void weigh(int set) {
            int people = land.peopleIn(gained);
            int cells = gained.size();
            if (people > bestPeople || people == bestPeople && cells > bestCells) {
                bestSet = set;
                bestPeople = people;
                bestCells = cells;
            }
        }
    }
}
