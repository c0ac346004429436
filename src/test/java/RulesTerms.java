/** Parts 4 to 6 of the document, sentence by sentence: RULES, WARNINGS, THE TRUTH, POSTS. */
final class RulesTerms {
    private static final String[] ASKED = {"seen", "words", "doubtful", "near", "soon", "people", "left", "ears", "hour"};

    private RulesTerms() { }

    static void test() {
        rules();
        heeding();
        posts();
    }

    private static void good(String text, int lines) {
        StormOffice x = new StormOffice();
        Edges.due("'" + text + "'", Due.rules(x, text), lines);
        Edges.due("'" + text + "', no FAULT", x.fault(0), 0);
    }

    private static void bad(String text, int fault, int place) {
        StormOffice x = new StormOffice();
        Edges.due("'" + text + "'", Due.rules(x, text), -1);
        Edges.due("'" + text + "', its FAULT", x.fault(0), fault);
        Edges.due("'" + text + "', its place", x.fault(1), place);
    }

    /** Whether a condition is so on bare land at MINUTE 0. */
    private static void so(String condition, boolean want) {
        StormOffice x = new StormOffice();
        Edges.due("'" + condition + "' is read", Due.rules(x, "wait when " + condition + ";"), 1);
        Edges.due("'" + condition + "' is so", x.asks(0, 9), want ? 0 : -1);
    }

    private static void rules() {
        Doc doc = Doc.part(4);
        doc.says("RULES are a TEXT = {(warn E | lift | wait) when B ;}.");
        good("", 0);
        good("warn 5 when 1=1;", 1);
        good("lift when 1=1;", 1);
        good("wait when 1=1;", 1);
        good("warn 5 when 1=1; lift when 1=1; wait when 1=1; warn 6 when 1=1;", 4);
        bad("warn when 1=1;", 1, 5);
        bad("lift 5 when 1=1;", 1, 5);
        bad("wait 5 when 1=1;", 1, 5);
        bad("warn 5 1=1;", 1, 7);
        bad("lift when 1=1", 1, 13);
        doc.says("B = A {or A}.");
        so("1=2 or 1=2 or 1=1", true);
        so("1=2 or 1=2 or 1=2", false);
        bad("lift when or 1=1;", 1, 10);
        doc.says("A = C {and C}.");
        so("1=1 and 1=1 and 1=1", true);
        so("1=1 and 1=1 and 1=2", false);
        so("1=1 or 1=1 and 1=2", true);
        so("1=2 and 1=1 or 1=1", true);
        bad("lift when and 1=1;", 1, 10);
        doc.says("C = E (< | = | >) E | not C | ( B ).");
        so("1<2", true);
        so("2<2", false);
        so("2=2", true);
        so("2=3", false);
        so("3>2", true);
        so("2>2", false);
        so("not 1=2", true);
        so("not 1=1", false);
        so("not 1=1 or 1=1", true);
        so("not (1=1 or 1=1)", false);
        so("(1=1 or 1=1) and 1=2", false);
        bad("lift when 1;", 1, 11);
        bad("lift when (1)=1;", 1, 12);
        bad("lift when 1=2=3;", 1, 13);
        doc.says("E = T {(+ | -) T}.");
        so("9-4-3=2", true);
        so("9-4+3=8", true);
        bad("lift when -1=1;", 1, 10);
        doc.says("T = U {* U | / NUMBER}.");
        so("2+3*4=14", true);
        so("3*4+2=14", true);
        so("7/2*2=6", true);
        so("100/7/3=4", true);
        bad("lift when 4/near=1;", 1, 12);
        bad("lift when 4*(2)=8;", 1, 12);
        doc.says("U = NUMBER | seen | words | doubtful | near | soon | people | left | ears | hour.");
        for (String word : ASKED) good("warn " + word + " when " + word + "=" + word + "/2;", 1);
        for (String word : new String[] {"warn", "lift", "wait", "when", "or", "and", "not", "heart"}) bad("lift when 1+" + word + "=1;", 1, 12);
        tokens(doc);
        asked(doc);
        aMinuteGoesBy(doc);
        doc.end();
    }

    private static void tokens(Doc doc) {
        doc.says("TOKENS: letters as many as stand together are KEYWORDS (those told here) or none;");
        bad("liftwhen 1=1;", 1, 0);
        bad("lift when nearly=1;", 1, 10);
        bad("LIFT when 1=1;", 1, 0);
        good("lift when 1=1and 1=1;", 1);
        bad("lift when 1=1andnot 1=1;", 1, 13);
        doc.says("digits as many as stand together NUMBERS of 1 to 4 digits or none;");
        so("9999=9998+1", true);
        so("0007=7", true);
        bad("lift when 1=10000;", 1, 12);
        bad("lift when 1=00001;", 1, 12);
        bad("lift when 12 34=1;", 1, 13);
        doc.says("; + - * / ( ) < = > .");
        String signs = "lift when(1+2-3*4/5<6)and 7=7or 8>7;";
        good(signs, 1);
        for (char sign : ";+-*/()<=>".toCharArray()) bad(signs.replace(sign, '?'), 1, signs.indexOf(sign));
        for (char sign : ".,!?#%&[]{}|^~:'\"$@\\_`".toCharArray()) bad("lift when 1=1" + sign + ";", 1, 13);
        doc.says("Blanks (32, 10) between.");
        good("\n  lift\nwhen 1\n= 1 ;\n\n", 1);
        for (int sign : new int[] {0, 9, 11, 12, 13, 31, 127, 160, 255}) bad("lift" + (char) sign + "when 1=1;", 1, 4);
        doc.says("Ints, which wrap;");
        so("4096*4096*127>0", true);
        so("4096*4096*128<0", true);
        so("4096*4096*256=0", true);
        so("4096*4096*128-1>0", true);
        doc.says("/ goes towards 0.");
        so("7/2=3", true);
        so("1/2=0", true);
        // 4096 * 4096 * 255 is -16777216.
        so("4096*4096*255/4096/4097=0", true);
        so("4096*4096*255/9999=0-1677", true);
        doc.says("FAULTS, the first by its place, at one place the least:");
        bad("warn 1/0 when ((((((((( 1=1", 2, 7);
        bad("lift when ((((((((( 1/0=1", 3, 18);
        bad("lift when ? 1/0=1", 1, 10);
        bad("lift when 1/00000=1;", 1, 12);
        doc.says("1 what can't stand there (the end: the text's length).");
        bad("when", 1, 0);
        bad("lift", 1, 4);
        bad("lift when 1=1 \n ", 1, 16);
        doc.says("2 (at the NUMBER) a part by 0.");
        bad("warn 6/0 when 1=1;", 2, 7);
        bad("warn 6 /  000 when 1=1;", 2, 10);
        good("warn 0/1*0 when 0=0;", 1);
        doc.says("3 (at its KEYWORD) the 17th line;");
        String line = "wait when 1=1;";
        good(line.repeat(16), 16);
        for (String deed : new String[] {"wait when 1=1;", "lift when 1=1;", "warn 1 when 1=1;"}) bad(line.repeat(16) + "\n" + deed, 3, 225);
        bad(line.repeat(16) + "\nwhen", 1, 225);
        doc.says("(at it) the 9th ( or not that is open.");
        good("wait when " + "(not ".repeat(4) + "1=1" + ")".repeat(4) + " and " + "not (".repeat(4) + "1=1" + ")".repeat(4) + ";", 1);
        bad("wait when " + "(not ".repeat(4) + "(1=1", 3, 30);
        bad("wait when " + "(not ".repeat(4) + "not 1=1", 3, 30);
    }

    private static void asked(Doc doc) {
        doc.says("Asked of a COUNTY NOW, as known NOW: seen, words, doubtful: how many SEEN, sure, unsure WORDS of the last 10"
                + " MINUTES (this one too) tell a CELL of it;");
        StormOffice x = new StormOffice();
        x.land(7, 3, 0, 0);
        x.radar(0, 7, 11, 3);
        x.minutes(40);
        for (int t = 20; t <= 40; t++) {
            x.seen(0, t, 7);
            x.word(t, 7, 5);
            x.word(t, 8, 5);
            x.word(t, 7, -1);
            x.word(t, 7, -1);
        }
        int[] due = {10, 10, 20};
        for (int what = 0; what <= 2; what++) Edges.due(ASKED[what], x.asks(3, what), due[what]);
        Edges.due("words of COUNTY 0", x.asks(0, 1), 10);
        x.minutes(1);
        for (int what = 0; what <= 2; what++) Edges.due(ASKED[what] + ", one MINUTE on", x.asks(3, what), due[what] / 10 * 9);
        doc.says("near: how many of its CELLS are MAYBE NOW;");
        StormOffice y = new StormOffice();
        for (int c = 0; c < 12; c++) y.land(c, 5, 10 * c, 0);
        y.word(0, 2, 1);
        Edges.due("x 1 .. 3 of row 0", y.asks(5, 3), 3);
        y.minutes(1);
        Edges.due("x 0 .. 4 of row 0", y.asks(5, 3), 5);
        doc.says("soon: the fewest MINUTES (0 .. 12) in which the heart may come to one of its CELLS, 99 if none;");
        for (int far = 0; far <= 18; far++) {
            StormOffice z = new StormOffice();
            // MOVES 5 and 7 alone: as many MINUTES as x and y differ in all.
            z.storm(1 << 5 | 1 << 7, 0);
            z.word(0, 0, 0);
            z.land(far <= 11 ? far : 11 + 12 * (far - 11), 6, 0, 0);
            Edges.due(far + " off", z.asks(6, 4), far <= 12 ? far : 99);
        }
        Edges.due("a COUNTY without CELLS", y.asks(6, 4), 99);
        doc.says("people: its PEOPLE;");
        Edges.due("10 .. 110", y.asks(5, 5), 660);
        Edges.due("none", y.asks(0, 5), 0);
        doc.says("left: MINUTES until its WARNING ends (0 without);");
        Edges.due("without", y.asks(5, 6), 0);
        y.warn(5, 3);
        for (int left = 3; left >= 0; left--) {
            Edges.due("left", y.asks(5, 6), left);
            y.minutes(1);
        }
        doc.says("ears: its EARS;");
        Edges.due("at first", y.asks(5, 7), 100);
        y.judge();
        Edges.due("behind a FALSE one", y.asks(5, 7), 90);
        Edges.due("of another COUNTY", y.asks(4, 7), 100);
        doc.says("hour: NOW by 60.");
        for (int now : new int[] {59, 60, 119, 120, 659, 660, 719}) {
            StormOffice z = new StormOffice();
            Edges.until(z, now);
            Edges.due("at " + now, z.asks(7, 8), now / 60);
        }
    }

    private static void aMinuteGoesBy(Doc doc) {
        doc.says("A MINUTE goes by: if RULES are ON, each COUNTY by numbers is asked, and the first line that is so is done:");
        StormOffice x = new StormOffice();
        for (int county = 0; county < 8; county++) x.land(county, county, county, 0);
        Due.rules(x, "wait when people=4; warn people when people>1; warn 30 when people=1;");
        x.minutes(1);
        Edges.due("not ON", x.look(2), 0);
        x.on(true);
        x.minutes(1);
        int[] counties = {1, 2, 3, 5, 6, 7};
        int[] spans = {30, 2, 3, 5, 6, 7};
        Edges.due("ON", x.look(2), 6);
        for (int w = 0; w < 6; w++) {
            Edges.due("by numbers", x.warning(w, 0), counties[w]);
            Edges.due("the first line that is so", x.warning(w, 2), 1 + spans[w]);
        }
        doc.says("warn: a WARNING for E MINUTES (1 at least, 60 at most) from NOW on: one that is there ends no earlier than it would have;");
        String[] told = {"0-5", "0", "1", "60", "61", "9999"};
        int[] due = {1, 1, 1, 60, 60, 60};
        for (int i = 0; i < told.length; i++) {
            StormOffice y = new StormOffice();
            Due.rules(y, "warn " + told[i] + " when near>0;");
            y.on(true);
            y.minutes(1);
            Edges.due("E " + told[i], y.warning(0, 2), due[i]);
        }
        for (int span : new int[] {1, 18, 19, 20, 60}) {
            StormOffice y = new StormOffice();
            y.warn(0, 20);
            y.minutes(1);
            Due.rules(y, "warn " + span + " when left=19;");
            y.on(true);
            y.minutes(1);
            Edges.due("19 are left, E " + span, y.warning(0, 2), 1 + Math.max(19, span));
        }
        StormOffice y = new StormOffice();
        y.warn(0, 21);
        y.minutes(20);
        Due.rules(y, "warn 3 when left=1;");
        y.on(true);
        y.minutes(1);
        Edges.due("one is left", y.warning(0, 2), 23);
        Edges.due("still the same", y.look(2), 1);
        doc.says("lift: it ends NOW.");
        Due.rules(y, "lift when left>0;");
        y.minutes(1);
        Edges.due("lifted at 21", y.warning(0, 2), 21);
        doc.says("Then NOW is one more.");
        Edges.due("22", y.look(0), 22);
        Due.rules(y, "warn 1 when hour=1 and near>0;");
        y.minutes(38);
        Edges.due("asked up to 59", y.look(2), 1);
        y.minutes(1);
        Edges.due("asked at 60", y.look(2), 2);
        Edges.due("it begins at 60", y.warning(1, 1), 60);
        byHand(doc);
    }

    private static void byHand(Doc doc) {
        doc.says("By hand the same may be done.");
        StormOffice x = new StormOffice();
        Edges.due("a WARNING", x.warn(3, 10), 0);
        Edges.due("lifted", x.lift(3), true);
        doc.says("A WARNING begins at a MINUTE, ENDS at one (it is there from its beginning up to the MINUTE ahead of that);");
        x.minutes(5);
        x.warn(3, 2);
        Edges.due("it begins", x.warning(1, 1), 5);
        Edges.due("it ENDS", x.warning(1, 2), 7);
        int[] there = {1, 1, 0};
        for (int i = 0; i < 3; i++) {
            Edges.due("at " + (5 + i), x.look(3), there[i]);
            x.minutes(1);
        }
        doc.says("what comes while it is there makes it longer;");
        x.warn(2, 4);
        x.minutes(3);
        Edges.due("the same one", x.warn(2, 4), 2);
        Edges.due("it ENDS later", x.warning(2, 2), 15);
        Edges.due("it began as it did", x.warning(2, 1), 8);
        Edges.due("less than is left", x.warn(2, 3), 2);
        Edges.due("it ENDS as it did", x.warning(2, 2), 15);
        doc.says("200 at most.");
        Due.rules(x, "warn 1 when left=0;");
        x.on(true);
        x.minutes(60);
        Edges.due("200", x.look(2), 200);
        Edges.due("no more by hand", x.warn(4, 9), -1);
        x.minutes(1);
        Edges.due("no more by RULES", x.look(2), 200);
        Edges.due("WARNING 199", x.warning(199, 3), 100);
        Edges.due("no WARNING 200", x.warning(200, 3), -1);
    }

    private static void heeding() {
        Doc doc = Doc.part(5);
        doc.says("EARS of a COUNTY are 100 at first.");
        StormOffice x = new StormOffice();
        for (int county = 0; county < 8; county++) Edges.due("COUNTY " + county, x.asks(county, 7), 100);
        doc.says("A WARNING keeps the EARS and the SIRENS of its beginning.");
        x.land(53, 1, 999, 0);
        x.warn(1, 1);
        x.minutes(1);
        x.siren(53, true);
        x.warn(1, 9);
        x.siren(53, false);
        x.judge();
        Edges.due("its EARS", x.warning(1, 3), 100);
        Edges.due("the COUNTY's are fewer since", x.asks(1, 7), 90);
        Edges.due("by its EARS and its SIREN", x.safe(1, 53), 999);
        doc.says("At a CELL of its COUNTY it is HEARD at its beginning, if there was a SIREN there or in a CELL beside (one far), else 5"
                + " MINUTES later.");
        for (int siren : new int[] {53, 52, 40, 66, 51, 29, 77}) {
            boolean beside = siren == 53 || siren == 52 || siren == 40 || siren == 66;
            StormOffice y = new StormOffice();
            y.land(53, 1, 100, 0);
            y.siren(siren, true);
            y.minutes(2);
            y.warn(1, 20);
            y.minutes(10);
            int heard = beside ? 2 : 7;
            Edges.due("SIREN at " + siren + ", ahead", y.safe(heard - 1, 53), 0);
            Edges.due("SIREN at " + siren, y.safe(heard, 53), 100);
            Edges.due("SIREN at " + siren + ", another COUNTY", y.safe(heard, siren == 53 ? 54 : siren), 0);
        }
        doc.says("HEEDING are PEOPLE times EARS by 100, downwards:");
        x.lift(1);
        x.siren(53, true);
        x.warn(1, 9);
        Edges.due("90 of 100 of 999", x.safe(1, 53), 899);
        doc.says("they are SAFE from SHELTERS' minutes behind hearing on, while it is there.");
        x.land(53, 1, 999, 4);
        x.minutes(20);
        int[] due = {0, 0, 0, 0, 0, 899, 899, 899, 899, 899, 0};
        for (int t = 0; t <= 10; t++) Edges.due("at " + t, x.safe(t, 53), due[t]);
        truth(doc);
        doc.end();
    }

    private static void truth(Doc doc) {
        doc.says("THE TRUTH: the heart's CELL at a MINUTE, as far as it is told.");
        StormOffice x = new StormOffice();
        x.land(53, 1, 60, 0);
        x.land(54, 1, 7, 0);
        x.land(55, 2, 500, 0);
        x.siren(54, true);
        x.minutes(4);
        x.warn(1, 5);
        x.minutes(8);
        Edges.due("not told", x.found(0, 12), 0);
        int[] path = {53, 53, -1, 53, 53, 54, 55, 55, 54, 53, -1, 55, 54};
        for (int t = 0; t <= 12; t++) Edges.due("told of " + t, x.truth(t, path[t]), true);
        doc.says("FOUND at a MINUTE of THE TRUTH: PEOPLE of its CELL that are not SAFE then, if THE TRUTH did not have that CELL at the"
                + " MINUTE ahead.");
        int[] due = {60, 0, 0, 60, 0, 0, 500, 0, 0, 60, 0, 500, 7};
        for (int t = 0; t <= 12; t++) Edges.due("at " + t, x.found(t, t), due[t]);
        doc.says("JUDGED are WARNINGS that ENDED by NOW and are not JUDGED yet:");
        x.warn(2, 30);
        x.warn(3, 1);
        Edges.due("one has ENDED", x.judge(), 1);
        Edges.due("it is JUDGED", x.judge(), 0);
        x.minutes(1);
        Edges.due("one more has", x.judge(), 1);
        Edges.due("one has not", x.warning(1, 4), 0);
        doc.says("RIGHT, if THE TRUTH has a CELL of the COUNTY at a MINUTE of it: its COUNTY's EARS gain 5 (100 at most);");
        Edges.due("RIGHT", x.warning(0, 4), 1);
        Edges.due("100 at most", x.asks(1, 7), 100);
        doc.says("else FALSE: they lose 10 (10 at least);");
        Edges.due("FALSE", x.warning(2, 4), 2);
        Edges.due("they lose 10", x.asks(3, 7), 90);
        StormOffice y = new StormOffice();
        int[] ears = {90, 80, 70, 60, 50, 40, 30, 20, 10, 10};
        for (int i = 0; i < ears.length; i++) {
            y.warn(6, 1);
            y.minutes(1);
            y.judge();
            Edges.due("FALSE for the time " + (i + 1), y.asks(6, 7), ears[i]);
        }
        y.land(0, 6, 0, 0);
        y.warn(6, 1);
        y.truth(10, 0);
        y.minutes(1);
        y.judge();
        Edges.due("RIGHT: they gain 5", y.asks(6, 7), 15);
        doc.says("in their order.");
        for (int first = 0; first <= 1; first++) {
            StormOffice z = new StormOffice();
            z.warn(0, 1);
            z.minutes(1);
            z.warn(0, 1);
            z.truth(first, 0);
            z.minutes(1);
            Edges.due("two", z.judge(), 2);
            Edges.due("RIGHT is number " + first, z.asks(0, 7), first == 0 ? 90 : 95);
        }
        doc.says("ENTRIES: MINUTES of THE TRUTH in a COUNTY, whose MINUTE ahead has no CELL of it.");
        // COUNTY 1 is entered at 0, 3, 8, 12, COUNTY 2 at 6 and 11.
        Edges.due("COUNTY 1", x.entries(1, 0), 4);
        Edges.due("COUNTY 2", x.entries(2, 0), 2);
        Edges.due("COUNTY 3", x.entries(3, 0), 0);
        doc.says("MISSED are those at which no WARNING of it is there;");
        Edges.due("COUNTY 1's was there from 4 to 8", x.entries(1, 1), 3);
        Edges.due("COUNTY 2's began at 12", x.entries(2, 1), 2);
        doc.says("LEAD of the others: how long it had been there.");
        Edges.due("4 MINUTES at 8", x.entries(1, 2), 4);
        Edges.due("none", x.entries(2, 2), 0);
    }

    private static void posts() {
        Doc doc = Doc.part(6);
        doc.says("POSTS 0 .. 7 are CELLS with EYES 0 .. 5: from one all CELLS no farther are seen.");
        for (int p = 0; p <= 7; p++) {
            StormOffice x = new StormOffice();
            for (int eyes = 0; eyes <= 5; eyes++) {
                Edges.due("POST " + p + ", EYES " + eyes, x.post(p, 0, eyes), true);
                Edges.due("CELLS from POST " + p + ", EYES " + eyes, x.posts(1, 2), (eyes + 1) * (eyes + 1));
            }
            Edges.due("EYES 6", x.post(p, 0, 6), false);
        }
        Edges.due("POST 8", new StormOffice().post(8, 0, 0), false);
        doc.says("BEST POSTS, k of them (0 .. 8): the most PEOPLE in CELLS that are seen from them and that no RADAR SEES;");
        StormOffice x = new StormOffice();
        int[] people = {0, 50, 20, 40, 30, 10, 70, 60};
        for (int p = 0; p <= 7; p++) {
            x.land(12 * p, 0, people[p], 0);
            x.post(p, 12 * p, 0);
        }
        int[] sets = {0, 64, 192, 194, 202, 218, 222, 254, 255};
        int[] sums = {0, 70, 130, 180, 220, 250, 270, 280, 280};
        for (int k = 0; k <= 8; k++) {
            Edges.due("k " + k, x.posts(k, 0), sets[k]);
            Edges.due("k " + k + ", PEOPLE", x.posts(k, 1), sums[k]);
        }
        x.radar(0, 84, 1, 0);
        Edges.due("a RADAR SEES 70 and 60", x.posts(2, 0), 2 + 8);
        doc.says("of several the most such CELLS;");
        StormOffice y = new StormOffice();
        y.land(53, 0, 9, 0);
        y.post(2, 53, 0);
        y.post(4, 53, 2);
        y.post(6, 53, 1);
        Edges.due("25 CELLS", y.posts(1, 0), 16);
        Edges.due("25 CELLS", y.posts(1, 2), 25);
        doc.says("then the least set as a number.");
        Edges.due("with the least of the others", y.posts(2, 0), 16 + 4);
        y.post(0, 53, 2);
        Edges.due("as many CELLS by a lesser number", y.posts(1, 0), 1);
        doc.says("The constants: `NONE = -1`: None.");
        Edges.due("NONE", StormOffice.NONE, -1);
        Edges.due("none such", y.of(96, 0), StormOffice.NONE);
        doc.end();
    }
}
