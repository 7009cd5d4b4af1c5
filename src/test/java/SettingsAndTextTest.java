/** Promises 15 to 19: set, append, clearText, fault, run. */
public final class SettingsAndTextTest {
    private static final Due due = new Due();

    public static void main(String[] args) {
        set();
        append();
        clearText();
        fault();
        runCarriesOut();
        runStops();
        runIsOneAction();
        runLeavesFaultyLogs();
        due.end();
    }

    private static void set() {
        RegattaTimes x = new RegattaTimes();
        int[] first = {600, 60, 4};
        int[] least = {1, 1, 0};
        int[] greatest = {3600, 300, 6};
        due.is("15: set(-1, 1)", x.set(-1, 1), RegattaTimes.NO_SUCH);
        due.is("15: set(3, -1)", x.set(3, -1), RegattaTimes.NO_SUCH);
        for (int s = 0; s < 3; s++) {
            due.is("15: below the least", x.set(s, least[s] - 1), RegattaTimes.BAD_VALUE);
            due.is("15: above the greatest", x.set(s, greatest[s] + 1), RegattaTimes.BAD_VALUE);
            due.is("15: not changed", x.count(6 + s), first[s]);
            due.is("15: the least", x.set(s, least[s]), first[s]);
            due.is("15: changed", x.count(6 + s), least[s]);
            due.is("15: the greatest", x.set(s, greatest[s]), least[s]);
            due.is("15: the same", x.set(s, greatest[s]), greatest[s]);
        }
    }

    private static void append() {
        RegattaTimes x = new RegattaTimes();
        due.is("16: append(31)", x.append(31), RegattaTimes.BAD_VALUE);
        due.is("16: append(127)", x.append(127), RegattaTimes.BAD_VALUE);
        due.is("16: append(65536 + 43)", x.append(65536 + 43), RegattaTimes.BAD_VALUE);
        due.is("16: append(-1)", x.append(-1), RegattaTimes.BAD_VALUE);
        due.is("16: append(32)", x.append(32), 1);
        due.is("16: append(126)", x.append(126), 2);
        for (int length = 3; length <= 80; length++) {
            due.is("16: append(';')", x.append(';'), length);
        }
        due.is("16: the 81st", x.append(';'), RegattaTimes.TOO_MANY);
        due.is("16: the 81st, a bad one", x.append(31), RegattaTimes.BAD_VALUE);
        due.is("16: the length", x.count(10), 80);
        due.is("16: not an action", x.count(9), 0);
    }

    private static void clearText() {
        RegattaTimes x = new RegattaTimes();
        due.is("17: empty", x.clearText(), 0);
        Scene.write(x, "l0;");
        due.is("17: three", x.clearText(), 3);
        due.is("17: empty again", x.count(10), 0);
        due.is("17: append begins anew", x.append('r'), 1);
        due.is("17: not an action", x.count(9), 0);
    }

    private static void fault() {
        String[] complete = {"+1", "+9", "+10", "+999", "l0", "l8", "b00", "b84", "r0", "r8",
            "h00", "h88", "h08", "+5;l1", "l0;b12;r3;h45;+678;l8", "+1;+12;+123"};
        for (String text : complete) {
            faultOf(text, RegattaTimes.NONE);
        }
        String[] unended = {"", "+", "l", "b", "b3", "r", "h", "h0", "l0;", "+1;", "+999;l", "b00;b0"};
        for (String text : unended) {
            faultOf(text, text.length());
        }
        String[] broken = {" ", "x", "0", ";", "L", "+0", "+x", "+;", "+1x", "+12x", "+123x",
            "+1000", "+-", "l9", "l;", "l/", "l:", "l00", "b9", "b05", "b0;", "b000", "r9", "r0r",
            "h9", "h09", "h0;", "h000", "l0;;", "l0; ", "l0;l9", "+1;+0", "b00;b0/"};
        for (String text : broken) {
            faultOf(text, text.length() - 1);
        }
        faultOf("+0+1;l0", 1);
        faultOf("l0 ;l1", 2);
        faultOf("zz", 0);
        String longest = "l0;".repeat(26) + "r0";
        faultOf(longest, RegattaTimes.NONE);
        faultOf("l0;".repeat(26) + "r", 79);
        faultOf("+1;".repeat(26) + "+1", RegattaTimes.NONE);
        faultOf("+12;".repeat(20), 80);
    }

    private static void faultOf(String text, int want) {
        RegattaTimes x = new RegattaTimes();
        Scene.write(x, text);
        due.is("18: fault of '" + text + "'", x.fault(), want);
        due.is("18: the text stays", x.count(10), text.length());
        due.is("18: not an action", x.count(9), 0);
        if (want != RegattaTimes.NONE) {
            due.is("19: run of '" + text + "'", x.run(), -100 - want);
            due.is("19: not an action then", x.count(9), 0);
        }
    }

    private static void runCarriesOut() {
        RegattaTimes x = Scene.fleet(100, 100, 100);
        x.prepare(2, 1, 60);
        Scene.write(x, "+60;l0;l1;l2;h12;b00;b10;b01;+123;r2;l0;+9");
        due.is("19: run()", x.run(), 12);
        due.is("19: the clock", x.count(3), 192);
        due.is("19: a finished boat", x.result(0, 0, 5), 123);
        due.is("19: a sailing boat", x.result(0, 1, 0), 2);
        due.is("19: its roundings", x.result(0, 1, 1), 1);
        due.is("19: a retired boat", x.result(0, 2, 0), 4);
        due.is("19: a protest", x.protest(0, 0), 1);
        due.is("19: against", x.protest(0, 1), 2);
        due.is("19: the text stays", x.count(10), "+60;l0;l1;l2;h12;b00;b10;b01;+123;r2;l0;+9".length());
        Scene.write(x, "b11;l1");
        due.is("19: run() once more", x.run(), 2);
        due.is("19: finished", x.result(0, 1, 0), 3);
    }

    private static void runStops() {
        RegattaTimes x = Scene.sailing(100, 100);
        stopsAfter(x, "+1;l2;+1", 1, 61);
        stopsAfter(x, "l0;+1", 0, 61);
        stopsAfter(x, "b01;+1", 0, 61);
        stopsAfter(x, "+2;b00;b00;l0;l0;+1", 4, 63);
        stopsAfter(x, "h00;+1", 0, 63);
        stopsAfter(x, "h01;h10;r1;h01;+1", 3, 63);
        stopsAfter(x, "r1;+1", 0, 63);
        for (int i = 0; i < 100; i++) {
            x.pass(9999);
        }
        stopsAfter(x, "+30;+7;+1", 1, 999993);
    }

    private static void stopsAfter(RegattaTimes x, String text, int events, int clock) {
        Scene.write(x, text);
        due.is("19: run of " + text, x.run(), events);
        due.is("19: the clock after " + text, x.count(3), clock);
    }

    private static void runIsOneAction() {
        RegattaTimes x = Scene.fleet(100, 100);
        x.prepare(1, 1, 60);
        Scene.write(x, "+60;l0;l1;+5");
        x.run();
        due.is("19: one state more", x.count(9), 4);
        due.is("19: undo()", x.undo(), 3);
        due.is("19: the clock before", x.count(3), 0);
        due.is("19: the boat before", x.result(0, 1, 0), 0);
        x.undo();
        Scene.write(x, "l8;l0");
        due.is("19: no event is carried out", x.run(), 0);
        due.is("19: it is an action", x.count(9), 3);
    }

    private static void runLeavesFaultyLogs() {
        RegattaTimes x = Scene.fleet(100);
        Scene.write(x, "+60;l");
        due.is("19: not complete", x.run(), -105);
        due.is("19: nothing has changed", x.count(3), 0);
        due.is("19: not recorded", x.count(9), 1);
        Scene.write(x, "");
        due.is("19: empty", x.run(), -100);
    }
}
