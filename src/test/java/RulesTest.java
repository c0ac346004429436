/** Promises 17 to 22: the TAPE, RULES, their FAULTS, and what is asked. */
public final class RulesTest {
    public static void main(String[] args) {
        tape();
        bytes();
        stays();
        tokens();
        faults();
        zeros();
        tooMany();
        truths();
        asked();
        recent();
        soon();
        on();
        Due.finish();
    }

    private static void tape() {
        StormOffice x = new StormOffice();
        Due.due("Promise 18: empty", x.end(0), true);
        Due.due("Promise 18: has not so many", x.end(1), false);
        Due.due("Promise 18: below 0", x.end(-1), false);
        for (int i = 1; i <= 40; i++) Due.due("Promise 17: feed", x.feed(0, 0, 0, 0, 0), 20 * i);
        Due.due("Promise 17: more than 800", x.feed(0, 0, 0, 0, 0), -1);
        Due.due("Promise 18: all of it", x.end(800), true);
        Due.due("Promise 18: has not so many", x.end(801), false);
        Due.due("Promise 18: has not so many", x.end(Integer.MAX_VALUE), false);
        Due.due("Promise 18: one less", x.end(781), true);
        Due.due("Promise 17: 801 would be too many", x.feed(0, 0, 0, 0, 0), -1);
        Due.due("Promise 18: one less", x.end(780), true);
        Due.due("Promise 17: just so many", x.feed(0, 0, 0, 0, 0), 800);
        Due.due("Promise 19: nothing but zeros", x.rules(), -1);
        Due.due("Promise 19: the TAPE is empty then", x.end(1), false);
        Due.due("Promise 17: from the beginning", x.feed(0, 0, 0, 0, 0), 20);
    }

    private static void bytes() {
        StormOffice x = new StormOffice();
        // "lift when 1 = 1 ;" by its bytes, the highest first
        x.feed(0x6c696674, 0x20776865, 0x6e203120, 0x3d203120, 0x3b0a0a20);
        Due.due("Promise 17: bytes in their order", x.rules(), 1);
        x.feed(0xff202020, 0x20202020, 0x20202020, 0x20202020, 0x20202020);
        Due.due("Promise 17: a byte above 127", x.rules(), -1);
        Due.due("Promise 17: a byte above 127", x.fault(1), 0);
        x.feed(0x20202020, 0x20202020, 0x20202020, 0x20202020, 0x20202080);
        x.rules();
        Due.due("Promise 17: the last byte", x.fault(1), 19);
    }

    private static void stays() {
        StormOffice x = new StormOffice();
        Due.due("Promise 19: two lines", Due.rules(x, "wait when 1=2; lift when 1=1;"), 2);
        Due.due("Promise 22: line", x.asks(0, 9), 1);
        Due.due("Promise 20: no fault", x.fault(0), 0);
        Due.due("Promise 20: no place", x.fault(1), -1);
        Due.due("Promise 19: fault", Due.rules(x, "wait when 1=1; wait when 1=1"), -1);
        Due.due("Promise 20: fault", x.fault(0), 1);
        Due.due("Promise 20: place", x.fault(1), 28);
        Due.due("Promise 19: they stay", x.asks(0, 9), 1);
        Due.due("Promise 20: wrong what", x.fault(2), -1);
        Due.due("Promise 20: wrong what", x.fault(-1), -1);
        Due.due("Promise 19: no lines", Due.rules(x, " \n "), 0);
        Due.due("Promise 20: the latest", x.fault(0), 0);
        Due.due("Promise 19: in place of the others", x.asks(0, 9), -1);
    }

    private static void text(String text, int lines) {
        StormOffice x = new StormOffice();
        Due.due("Promise 19: " + text, Due.rules(x, text), lines);
        Due.due("Promise 20: " + text, x.fault(0), 0);
        Due.due("Promise 20: " + text, x.fault(1), -1);
    }

    private static void fault(String text, int kind, int place) {
        StormOffice x = new StormOffice();
        Due.due("Promise 19: " + text, Due.rules(x, text), -1);
        Due.due("Promise 20: fault of " + text, x.fault(0), kind);
        Due.due("Promise 20: place of " + text, x.fault(1), place);
    }

    private static void tokens() {
        text("warn 9999when 0000=1and 1<2or 2>1;", 1);
        text("warn seen+words-doubtful*near/7when soon<people and left=ears or hour>1;", 1);
        text("lift\nwhen\n1\n=\n1\n;", 1);
        fault("liftwhen 1=1;", 1, 0);
        fault("lift when 1=12345;", 1, 12);
        fault("lift when 1=00001;", 1, 12);
        fault("Lift when 1=1;", 1, 0);
        fault("lift when nearX=1;", 1, 10);
        fault("lift when near1=1;", 1, 14);
        for (char sign : "azAZ".toCharArray()) fault("lift when near" + sign + "=1;", 1, 10);
        for (char sign : "`{@[_".toCharArray()) fault("lift when near" + sign + "=1;", 1, 14);
        for (char sign : ":?!,%&".toCharArray()) fault("lift when 1" + sign + "1;", 1, 11);
        fault("lift\twhen 1=1;", 1, 4);
        fault("lift\rwhen 1=1;", 1, 4);
        fault("lift when 1=1.", 1, 13);
        fault("lift when 1==1;", 1, 12);
    }

    private static void faults() {
        fault("when 1=1;", 1, 0);
        fault(";", 1, 0);
        fault("lift", 1, 4);
        fault("lift   ", 1, 7);
        fault("lift 5 when 1=1;", 1, 5);
        fault("wait 5 when 1=1;", 1, 5);
        fault("warn when 1=1;", 1, 5);
        fault("warn 1+ when 1=1;", 1, 8);
        fault("warn (1) when 1=1;", 1, 5);
        fault("warn -1 when 1=1;", 1, 5);
        fault("warn 1 2 when 1=1;", 1, 7);
        fault("lift when ;", 1, 10);
        fault("lift when 1;", 1, 11);
        fault("lift when 1=;", 1, 12);
        fault("lift when 1=1=1;", 1, 13);
        fault("lift when (1)=1;", 1, 12);
        fault("lift when (1=1;", 1, 14);
        fault("lift when 1=1);", 1, 13);
        fault("lift when not;", 1, 13);
        fault("lift when 1=1 and;", 1, 17);
        fault("lift when 1=1 or;", 1, 16);
        fault("lift when 1=1 not 1=1;", 1, 14);
        fault("lift when seen 1=1;", 1, 15);
        fault("lift when 1*(2)=1;", 1, 12);
        fault("lift when 6/seen=1;", 1, 12);
        fault("lift when 1=1;;", 1, 14);
        fault("lift when 1=1; lift when 1=1 ", 1, 29);
        text("lift when not not (1=1 and (2=2));", 1);
    }

    private static void zeros() {
        fault("warn 6/0 when 1=1;", 2, 7);
        fault("warn 6/ 0000 when 1=1;", 2, 8);
        fault("warn 6/00000 when 1=1;", 1, 7);
        fault("warn 6/0 when ? ;", 2, 7);
        fault("warn ? 6/0 when 1=1;", 1, 5);
        fault("lift when 6/0=1;", 2, 12);
        text("warn 0*0 when 0=0/1;", 1);
    }

    private static void tooMany() {
        String line = "wait when 1=1;";
        text(line.repeat(16), 16);
        text(line.repeat(16) + "  ", 16);
        fault(line.repeat(16) + " warn", 3, 225);
        fault(line.repeat(16) + " when", 1, 225);
        fault(line.repeat(16) + ";", 1, 224);
        fault(line.repeat(15) + "wait when 1;" + line, 1, 221);
        text("wait when " + "(".repeat(8) + "1=1" + ")".repeat(8) + ";", 1);
        fault("wait when " + "(".repeat(9) + "1=1" + ")".repeat(9) + ";", 3, 18);
        text("wait when " + "not ".repeat(8) + "1=1;", 1);
        fault("wait when " + "not ".repeat(9) + "1=1;", 3, 42);
        fault("wait when " + "(not ".repeat(4) + "( 1=1", 3, 30);
        text("wait when " + "not(".repeat(4) + "1=1" + ")".repeat(4) + " and " + "(".repeat(8) + "1=1" + ")".repeat(8) + ";", 1);
        text("wait when " + "not ".repeat(8) + "1=1 or " + "not ".repeat(8) + "1=1;", 1);
        fault("wait when (" + "not ".repeat(7) + "1=1 and " + "not ".repeat(8) + "1=1);", 3, 11 + 28 + 8 + 28);
        fault("wait when " + "(".repeat(8) + "1(", 1, 19);
    }

    private static void so(String condition, boolean want) {
        StormOffice x = new StormOffice();
        Due.due("Promise 19: " + condition, Due.rules(x, "wait when " + condition + ";"), 1);
        Due.due("Promise 22: " + condition, x.asks(0, 9), want ? 0 : -1);
    }

    private static void truths() {
        so("1<2", true);
        so("2<2", false);
        so("2=2", true);
        so("3>2", true);
        so("2>2", false);
        so("not 2>2", true);
        so("not 1=1 or 1=1", true);
        so("not (1=1 or 1=1)", false);
        so("1=1 or 1=1 and 1=2", true);
        so("(1=1 or 1=1) and 1=2", false);
        so("1=2 and 1=1 or 1=1", true);
        so("1=2 and (1=1 or 1=1)", false);
        so("1=2 or 1=2 or 1=1 and 1=1 and 1=2 or 1=1", true);
        so("not not not 1=2", true);
        so("10-3-2=5", true);
        so("2+3*4=14", true);
        so("2*3+4*5-6=20", true);
        so("7/2*2=6", true);
        so("2*7/2=7", true);
        so("100/10/5=2", true);
        so("0-7/2=0-3", true);
        so("0-7<0", true);
        so("1-8*1/2=0-3", true);
        // 99980001 * 22 wraps to -2095407274, which is no whole third: / goes towards 0
        so("9999*9999*22<0", true);
        so("9999*9999*22/2<0-9999*9999*10", true);
        so("9999*9999*22/3*3=9999*9999*22+1", true);
        so("9999*9999*20+9999*9999*2<0", true);
        so("near*7/2=336", true);
    }

    private static void asked() {
        StormOffice x = new StormOffice();
        Due.due("Promise 22: wrong county", x.asks(-1, 0), -2);
        Due.due("Promise 22: wrong county", x.asks(8, 0), -2);
        Due.due("Promise 22: wrong what", x.asks(0, -1), -2);
        Due.due("Promise 22: wrong what", x.asks(0, 10), -2);
        x.radar(0, 0, 0, 3);
        for (int c = 0; c < 12; c++) x.land(c, 2, c, 0);
        x.seen(0, 0, 1);
        x.seen(0, 0, 13);
        x.word(0, 2, 4);
        x.word(0, 3, 5);
        x.word(0, 2, -1);
        x.word(0, 3, -1);
        x.word(0, 4, -1);
        x.word(0, 14, -1);
        x.bare(0, 0);
        Due.due("Promise 22: seen", x.asks(2, 0), 1);
        Due.due("Promise 22: seen elsewhere", x.asks(0, 0), 1);
        Due.due("Promise 22: words", x.asks(2, 1), 2);
        Due.due("Promise 22: doubtful", x.asks(2, 2), 3);
        // x 0 .. 4 by the first SEEN, y 0 .. 3; CELL 0 is swept bare
        Due.due("Promise 22: near", x.asks(2, 3), 4);
        Due.due("Promise 22: soon", x.asks(2, 4), 0);
        Due.due("Promise 22: people", x.asks(2, 5), 66);
        Due.due("Promise 22: left without", x.asks(2, 6), 0);
        x.warn(2, 7);
        Due.due("Promise 22: left", x.asks(2, 6), 7);
        Due.due("Promise 22: left of another", x.asks(1, 6), 0);
        Due.due("Promise 22: ears", x.asks(2, 7), 100);
        Due.due("Promise 22: hour", x.asks(2, 8), 0);
        x.minutes(6);
        Due.due("Promise 22: left", x.asks(2, 6), 1);
        x.minutes(53);
        Due.due("Promise 22: hour at 59", x.asks(2, 8), 0);
        x.minutes(1);
        Due.due("Promise 22: hour at 60", x.asks(2, 8), 1);
        for (int what = 0; what < 9; what++) {
            String[] names = {"seen", "words", "doubtful", "near", "soon", "people", "left", "ears", "hour"};
            int value = x.asks(2, what);
            Due.rules(x, "wait when " + names[what] + "=" + value + ";");
            Due.due("Promise 22: " + names[what], x.asks(2, 9), 0);
        }
    }

    private static void recent() {
        StormOffice x = new StormOffice();
        x.radar(0, 0, 0, 3);
        x.minutes(9);
        x.seen(0, 0, 0);
        x.word(0, 0, 5);
        x.word(0, 0, -1);
        for (int what = 0; what < 3; what++) Due.due("Promise 22: ten MINUTES, this one too", x.asks(0, what), 1);
        x.minutes(1);
        for (int what = 0; what < 3; what++) Due.due("Promise 22: eleven MINUTES", x.asks(0, what), 0);
        x.word(10, 0, 5);
        x.land(0, 5, 0, 0);
        Due.due("Promise 22: its COUNTY as told now", x.asks(5, 1), 1);
        Due.due("Promise 22: not of the old one", x.asks(0, 1), 0);
    }

    private static void soon() {
        StormOffice x = new StormOffice();
        for (int y = 0; y < 8; y++) x.land(12 * y + 11, 1, 0, 0);
        x.storm(1 << 4 | 1 << 5, 0);
        x.word(0, 0, 0);
        Due.due("Promise 22: soon, where it may be", x.asks(0, 4), 0);
        Due.due("Promise 22: soon, eleven MOVES off", x.asks(1, 4), 11);
        Due.due("Promise 22: never", x.asks(2, 4), 99);
        Due.due("Promise 22: near", x.asks(0, 3), 1);
        x.minutes(11);
        Due.due("Promise 22: it may be there", x.asks(1, 4), 0);
        x.word(11, 10, 0);
        Due.due("Promise 22: beside it", x.asks(1, 4), 1);
        x.storm(1 << 4, 0);
        Due.due("Promise 22: MOVES do not go there", x.asks(1, 4), 99);
        StormOffice z = new StormOffice();
        z.storm(1 << 5 | 1 << 7, 0);
        z.word(0, 0, 0);
        z.land(78, 1, 0, 0);
        z.land(79, 2, 0, 0);
        Due.due("Promise 22: six to the east, six on in y", z.asks(1, 4), 12);
        Due.due("Promise 22: thirteen are too many", z.asks(2, 4), 99);
        StormOffice y = new StormOffice();
        y.storm(1 << 3, 0);
        y.word(0, 0, 0);
        y.land(1, 1, 0, 0);
        Due.due("Promise 22: gone", y.asks(1, 4), 99);
    }

    private static void on() {
        StormOffice x = new StormOffice();
        x.on(true);
        x.minutes(1);
        Due.due("Promise 21: no RULES", x.look(2), 0);
        Due.rules(x, "warn 2 when 1=1;");
        x.minutes(1);
        Due.due("Promise 21: ON", x.look(2), 8);
        x.on(false);
        x.minutes(5);
        Due.due("Promise 21: not ON", x.look(2), 8);
        x.on(true);
        Due.rules(x, "fault");
        x.minutes(1);
        Due.due("Promise 21: the old RULES stay ON", x.look(2), 16);
    }
}
