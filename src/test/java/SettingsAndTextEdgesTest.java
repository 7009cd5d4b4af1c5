/** The boundaries that promises 15 to 19 name: set, append, clearText, fault, run; and those of a log. */
public final class SettingsAndTextEdgesTest {
    private static final Due due = new Due();
    private static final String DIGITS = "0123456789";
    private static final String BOATS = "012345678";
    private static final String BUOYS = "01234";

    public static void main(String[] args) {
        rangesOfTheSettings();
        settingsThatAreNot();
        charactersOfTheText();
        eightyCharacters();
        clearing();
        whatAnEventBeginsWith();
        seconds();
        boatsOfEvents();
        buoysOfEvents();
        theFirstFaultCounts();
        textsThatAreNotYetComplete();
        completeLogs();
        faultsOfAFullText();
        runningFaultyTexts();
        runningEachEvent();
        runningUpToNoSuch();
        runningUpToBadValue();
        runningUpToTooMany();
        runningUpToNotPossible();
        runningNoEventOrAll();
        runningIsOneAction();
        runningLeavesTheText();
        due.end();
    }

    // ---- Promise 15

    /** "FILE (1 to 3600 ..), PENALTY (1 to 300 ..), DISCARD (0 to 6 ..)"; "Returns the previous value". */
    private static void rangesOfTheSettings() {
        int[] first = {600, 60, 4};
        int[] least = {1, 1, 0};
        int[] greatest = {3600, 300, 6};
        Story s = new Story();
        Story sailing = Story.sailing(100, 100);
        for (int n = 0; n < 3; n++) {
            int setting = n;
            for (int value : new int[] {least[n], least[n] + 1, greatest[n] - 1, greatest[n]}) {
                due.is("15: set(" + setting + ", " + value + ")", s, x -> x.set(setting, value), first[setting]);
                due.is("15: in a race", sailing, x -> x.set(setting, value), first[setting]);
                Story set = s.and(x -> x.set(setting, value));
                due.is("15: so it is", set, x -> x.count(6 + setting), value);
                due.is("15: another one is not changed", set, x -> x.count(6 + (setting + 1) % 3),
                        first[(setting + 1) % 3]);
                due.is("15: the previous value", set, x -> x.set(setting, least[setting]), value);
            }
            for (int value : Scene.outside(least[setting], greatest[setting])) {
                due.unchanged("15: set(" + setting + ", " + value + ")", s, x -> x.set(setting, value),
                        RegattaTimes.BAD_VALUE);
            }
        }
        due.unchanged("15: set(FILE, 0)", s, x -> x.set(RegattaTimes.FILE, 0), RegattaTimes.BAD_VALUE);
        due.unchanged("15: set(PENALTY, 0)", s, x -> x.set(RegattaTimes.PENALTY, 0), RegattaTimes.BAD_VALUE);
    }

    /** "setting: FILE to DISCARD"; "NO_SUCH if there is no such setting". */
    private static void settingsThatAreNot() {
        Story s = Story.sailing(100, 100);
        for (int setting : Scene.outside(0, 2)) {
            due.unchanged("15: set(" + setting + ", 1)", s, x -> x.set(setting, 1), RegattaTimes.NO_SUCH);
        }
    }

    // ---- Promise 16

    /** "character: 32 to 126"; "BAD_VALUE if character is out of range". */
    private static void charactersOfTheText() {
        Story empty = new Story();
        Story one = empty.written("l");
        for (int c = 32; c <= 126; c++) {
            int character = c;
            due.is("16: append(" + character + ")", empty, x -> x.append(character), 1);
            due.is("16: another append(" + character + ")", one, x -> x.append(character), 2);
            due.is("16: the length", one.and(x -> x.append(character)), x -> x.count(10), 2);
        }
        for (int character : Scene.outside(32, 126)) {
            due.unchanged("16: append(" + character + ")", one, x -> x.append(character), RegattaTimes.BAD_VALUE);
        }
        due.unchanged("16: append(0)", one, x -> x.append(0), RegattaTimes.BAD_VALUE);
        due.unchanged("16: append(10)", one, x -> x.append(10), RegattaTimes.BAD_VALUE);
        // A digit, if it were cut to 16 bits.
        due.unchanged("16: append(65536 + '0')", one, x -> x.append(65536 + '0'), RegattaTimes.BAD_VALUE);
    }

    /** "a text of at most 80 characters"; "TOO_MANY if the text has 80 characters". */
    private static void eightyCharacters() {
        String full = "l0;".repeat(26) + "l0";
        Story s = Story.fleet(100).and(x -> x.prepare(1, 1, 60));
        for (int length = 0; length < 80; length++) {
            char next = full.charAt(length);
            Story written = s.written(full.substring(0, length));
            due.is("16: after " + length, written, x -> x.append(next), length + 1);
        }
        Story written = s.written(full);
        due.is("16: the text", written, x -> x.count(10), 80);
        due.is("16: it is a log", written, x -> x.fault(), RegattaTimes.NONE);
        for (int c : new int[] {32, ';', '0', 'l', 126}) {
            int character = c;
            due.unchanged("16: append(" + character + ") after 80", written, x -> x.append(character),
                    RegattaTimes.TOO_MANY);
        }
        due.is("16: cleared, it has room", written.and(x -> x.clearText()), x -> x.append('l'), 1);
    }

    // ---- Promise 17

    /** "Returns the length that the text had": the empty and the full text, too. */
    private static void clearing() {
        due.unchanged("17: the empty text", Story.fleet(100), x -> x.clearText(), 0);
        for (int n : new int[] {1, 2, 79, 80}) {
            Story s = Story.fleet(100).written("z".repeat(n));
            due.is("17: of " + n, s, x -> x.clearText(), n);
            due.is("17: it is empty", s.and(x -> x.clearText()), x -> x.count(10), 0);
            due.is("17: its fault", s.and(x -> x.clearText()), x -> x.fault(), 0);
            due.unchanged("17: once more", s.and(x -> x.clearText()), x -> x.clearText(), 0);
            due.is("17: not an action", s.and(x -> x.clearText()), x -> x.count(9), 1);
        }
        Story anew = new Story().written("l9;+").written("r8");
        due.is("17: nothing of it is left", anew, x -> x.fault(), RegattaTimes.NONE);
    }

    // ---- Promise 18: the log

    /** The fault of the beginning with each character behind it: these are possible, those end a log. */
    private static void follows(String beginning, String possible, String ending) {
        for (char c = 32; c <= 126; c++) {
            String text = beginning + c;
            boolean isPossible = possible.indexOf(c) >= 0;
            boolean isEnding = ending.indexOf(c) >= 0;
            int want = isEnding ? RegattaTimes.NONE : isPossible ? text.length() : beginning.length();
            Story s = new Story().written(text);
            due.is("18: fault of '" + text + "'", s, x -> x.fault(), want);
            if (!isEnding) {
                due.is("19: run of '" + text + "'", s, x -> x.run(), -100 - want);
            }
            if (!isPossible) {
                due.is("18: fault of '" + text + "l0'", new Story().written(text + "l0"), x -> x.fault(), want);
            }
        }
    }

    /** "log = event { ";" event }"; "event = "+" seconds | "l" boat | "b" boat buoy | "r" boat | "h" boat boat". */
    private static void whatAnEventBeginsWith() {
        for (String beginning : new String[] {"", "+1;", "+12;", "+123;", "l0;", "b00;", "r0;", "h00;", "l0;l1;"}) {
            follows(beginning, "+lbrh", "");
        }
    }

    /** "Seconds are a number from 1 to 999 without leading zeros". */
    private static void seconds() {
        follows("+", "123456789", "123456789");
        for (String beginning : new String[] {"+1", "+9", "+10", "+99", "r8;+5", "r8;+50"}) {
            follows(beginning, DIGITS + ";", DIGITS);
        }
        for (String beginning : new String[] {"+100", "+999", "+123", "l0;+100"}) {
            follows(beginning, ";", "");
        }
        for (int n = 1; n <= 999; n++) {
            String event = "+" + n;
            due.is("18: fault of '" + event + "'", new Story().written(event), x -> x.fault(), RegattaTimes.NONE);
            due.is("19: run of '" + event + "'", new Story().written(event).and(x -> x.run()), x -> x.count(3), n);
        }
    }

    /** "boats digits from 0 to 8". */
    private static void boatsOfEvents() {
        for (String beginning : new String[] {"l", "r", "+999;l", "h0", "h8", "b00;h4"}) {
            follows(beginning, BOATS, BOATS);
        }
        for (String beginning : new String[] {"b", "h", "l0;b", "l0;h"}) {
            follows(beginning, BOATS, "");
        }
        for (String beginning : new String[] {"l0", "l8", "r0", "r8", "h00", "h88", "h80", "+1;l0"}) {
            follows(beginning, ";", "");
        }
    }

    /** "a buoy a digit from 0 to 4". */
    private static void buoysOfEvents() {
        for (String beginning : new String[] {"b0", "b8", "r1;b7"}) {
            follows(beginning, BUOYS, BUOYS);
        }
        for (String beginning : new String[] {"b00", "b84", "b04;b44"}) {
            follows(beginning, ";", "");
        }
    }

    /** "the index of the first character such that no log .. begins with the characters up to and including it". */
    private static void theFirstFaultCounts() {
        String[] texts = {"xl0", "l9l9", "l0;x;x", "+0+0", "h9h9", "b05b05", "l0l0", ";;", "l0;;l0", "+1000;+1000"};
        int[] faults = {0, 1, 3, 1, 1, 2, 2, 0, 3, 4};
        for (int i = 0; i < texts.length; i++) {
            due.is("18: fault of '" + texts[i] + "'", new Story().written(texts[i]), x -> x.fault(), faults[i]);
        }
    }

    /** "but the text is not a complete log (as the empty text), the fault is the length of the text". */
    private static void textsThatAreNotYetComplete() {
        String[] texts = {"", "+", "l", "b", "b8", "r", "h", "h8", "l0;", "+999;", "b84;", "r8;", "h88;", "l0;+",
            "l0;b1", "l0;h2"};
        for (String text : texts) {
            Story s = new Story().written(text);
            due.unchanged("18: fault of '" + text + "'", s, x -> x.fault(), text.length());
            due.unchanged("19: run of '" + text + "'", s, x -> x.run(), -100 - text.length());
        }
    }

    /** "NONE if the text is a complete log". */
    private static void completeLogs() {
        String[] texts = {"+1", "+999", "l0", "l8", "b00", "b84", "r0", "r8", "h00", "h08", "h80", "h88",
            "+1;l0;b00;r0;h00", "h88;r8;b84;l8;+999"};
        for (String text : texts) {
            Story s = Story.fleet(100).written(text);
            due.unchanged("18: fault of '" + text + "'", s, x -> x.fault(), RegattaTimes.NONE);
        }
    }

    /** "no log, of any length": a full text can still be the beginning of a longer log. */
    private static void faultsOfAFullText() {
        String[] texts = {"l0;".repeat(26) + "l0", "l0;".repeat(26) + "l9", "l0;".repeat(26) + "+1",
            "b00;".repeat(20), "l0;".repeat(26) + "b0", "l0;".repeat(26) + "h0", "l0;".repeat(26) + "l;",
            "b00;".repeat(19) + "+999", "b00;".repeat(19) + "+1;l", "z".repeat(80)};
        int[] faults = {RegattaTimes.NONE, 79, RegattaTimes.NONE, 80, 80, 80, 79, RegattaTimes.NONE, 80, 0};
        for (int i = 0; i < texts.length; i++) {
            Story s = new Story().written(texts[i]);
            due.is("18: its length", s, x -> x.count(10), 80);
            due.unchanged("18: fault of '" + texts[i] + "'", s, x -> x.fault(), faults[i]);
            if (faults[i] != RegattaTimes.NONE) {
                due.unchanged("19: run of '" + texts[i] + "'", s, x -> x.run(), -100 - faults[i]);
            }
        }
    }

    // ---- Promise 19

    /** "-100 minus the fault (an error code) if the text is not a complete log": -100 to -180. */
    private static void runningFaultyTexts() {
        Story s = Story.sailing(100, 100);
        due.unchanged("19: the empty text", s, x -> x.run(), -100);
        due.unchanged("19: a fault at once", s.written(";+1"), x -> x.run(), -100);
        due.unchanged("19: a fault at 1", s.written("+"), x -> x.run(), -101);
        due.unchanged("19: good events before the fault", s.written("+1;+1;+0"), x -> x.run(), -107);
        due.unchanged("19: good events before the end", s.written("+1;+1;"), x -> x.run(), -106);
        due.unchanged("19: a fault at 79", s.written("+1;".repeat(26) + "+0"), x -> x.run(), -179);
        due.unchanged("19: a fault at 80", s.written("+10;".repeat(20)), x -> x.run(), -180);
    }

    private static void runs(String what, Story s, String text, int events, Story.Call call, double want) {
        Story written = s.written(text);
        due.is("19: " + what + ", run of " + text, written, x -> x.run(), events);
        due.is("19: " + what + ", after " + text, written.and(x -> x.run()), call, want);
    }

    /** "Carries out the events of the text, one after the other, as the methods do". */
    private static void runningEachEvent() {
        Story nine = Story.sailing(100, 100, 100, 100, 100, 100, 100, 100, 100);
        Story early = Story.fleet(100, 100).and(x -> x.prepare(1, 1, 60));
        runs("the least seconds", nine, "+1", 1, x -> x.count(3), 61);
        runs("the most seconds", nine, "+999", 1, x -> x.count(3), 1059);
        runs("the first boat is early", early, "l0", 1, x -> x.result(0, 0, 0), 1);
        runs("early and back", early, "l0;l0", 2, x -> x.result(0, 0, 0), 0);
        runs("a second before the start", early, "+59;l0", 2, x -> x.result(0, 0, 0), 1);
        runs("at the start", early, "+60;l0", 2, x -> x.result(0, 0, 0), 2);
        runs("the first boat rounds", nine, "b00", 1, x -> x.result(0, 0, 1), 1);
        runs("the last boat rounds", nine, "b80", 1, x -> x.result(0, 8, 1), 1);
        runs("the last boat finishes", nine, "+7;b80;l8", 3, x -> x.result(0, 8, 5), 7);
        runs("the first boat retires", nine, "r0", 1, x -> x.result(0, 0, 0), 4);
        runs("the last boat retires", nine, "r8", 1, x -> x.result(0, 8, 0), 4);
        runs("the first hails against the last", nine, "h08", 1, x -> x.protest(0, 1), 8);
        runs("the last hails against the first", nine, "h80", 1, x -> x.protest(0, 0), 8);
        Story buoys = Story.fleet(100).and(x -> x.prepare(5, 1, 60)).passed(60).and(x -> x.line(0));
        runs("the last buoy, a mistake", buoys, "b04", 1, x -> x.result(0, 0, 2), 1);
        runs("all five buoys", buoys, "b00;b01;b02;b03;b04;l0", 6, x -> x.result(0, 0, 0), 3);
    }

    /** "up to the first one for which the method would return an error code". */
    private static void runningUpToNoSuch() {
        Story s = Story.sailing(100, 100);
        for (String event : new String[] {"l2", "l8", "b20", "b80", "r2", "r8", "h20", "h02", "h88"}) {
            runs("no such boat, the first event", s, event + ";+5", 0, x -> x.count(3), 60);
            runs("no such boat, the second event", s, "+1;" + event + ";+5", 1, x -> x.count(3), 61);
            runs("no such boat, the last event", s, "+1;+5;" + event, 2, x -> x.count(3), 66);
        }
    }

    private static void runningUpToBadValue() {
        Story s = Story.sailing(100, 100);
        for (String event : new String[] {"b01", "b04", "h00", "h11"}) {
            runs("a bad value, the first event", s, event + ";+5", 0, x -> x.count(3), 60);
            runs("a bad value, the second event", s, "+1;" + event + ";+5", 1, x -> x.count(3), 61);
        }
    }

    private static void runningUpToTooMany() {
        Story late = new Story().passed(999990);
        runs("up to the last second", late, "+4;+5", 2, x -> x.count(3), 999999);
        runs("above the last second", late, "+4;+6;+1", 1, x -> x.count(3), 999994);
        runs("far above it", late, "+999;+1", 0, x -> x.count(3), 999990);
        Story s = Story.sailing(100, 100);
        runs("ten protests", s, "h01;".repeat(10) + "+5", 11, x -> x.count(3), 65);
        runs("an eleventh protest", s, "h01;".repeat(11) + "+5", 10, x -> x.count(3), 60);
        runs("an eleventh is not hailed", s, "h01;".repeat(11) + "+5", 10, x -> x.count(5), 10);
    }

    private static void runningUpToNotPossible() {
        Story s = Story.sailing(100, 100).and(x -> x.retire(1));
        for (String event : new String[] {"l0", "l1", "b10", "r1", "h01", "h10"}) {
            runs("not possible, the first event", s, event + ";+5", 0, x -> x.count(3), 60);
            runs("not possible, the second event", s, "+1;" + event + ";+5", 1, x -> x.count(3), 61);
        }
        Story none = Story.fleet(100, 100);
        for (String event : new String[] {"l0", "b00", "r0", "h01"}) {
            runs("no race", none, "+1;" + event + ";+5", 1, x -> x.count(3), 1);
        }
        runs("what came before stays", s, "b00;l0;l0;+5", 2, x -> x.result(0, 0, 0), 3);
    }

    /** "Returns the number of events that are carried out": 0, and up to the 27 that a text has room for. */
    private static void runningNoEventOrAll() {
        Story early = Story.fleet(100).and(x -> x.prepare(1, 1, 60));
        runs("27 events", early, "l0;".repeat(26) + "l0", 27, x -> x.result(0, 0, 0), 1);
        runs("26 events", early, "l0;".repeat(25) + "l0", 26, x -> x.result(0, 0, 0), 0);
        runs("the 27th is not carried out", early, "l0;".repeat(26) + "l1", 26, x -> x.result(0, 0, 0), 0);
        runs("27 times a second", new Story(), "+1;".repeat(26) + "+1", 27, x -> x.count(3), 27);
        runs("none", early, "l1", 0, x -> x.result(0, 0, 0), 0);
        runs("the only one", early, "l0", 1, x -> x.result(0, 0, 0), 1);
    }

    /** "This is one action, even if no event is carried out." */
    private static void runningIsOneAction() {
        Story s = Story.fleet(100).and(x -> x.prepare(1, 1, 60));
        for (String text : new String[] {"l0;l0;l0;+5;+6", "+1", "+1;l8", "l8", "b00;+1"}) {
            Story run = s.written(text).and(x -> x.run());
            due.is("19: states after run of " + text, run, x -> x.count(9), 3);
            due.is("19: undo of " + text, run, x -> x.undo(), 2);
            due.holds("19: all is as before " + text,
                    run.and(x -> x.undo()).picture().equals(s.written(text).picture()));
        }
        Story full = Story.fleet(100, 90, 80, 70, 60).written("l8").and(x -> x.run());
        due.is("19: a fifth state", full, x -> x.count(9), 4);
        due.is("19: the oldest one is dropped for it", full.and(x -> x.undo()).and(x -> x.undo())
                .and(x -> x.undo()).and(x -> x.undo()), x -> x.count(0), 2);
    }

    /** "The text does not change." */
    private static void runningLeavesTheText() {
        for (String text : new String[] {"+1;+2", "+1;l8", "l8;+1"}) {
            Story run = new Story().written(text).and(x -> x.run());
            due.is("19: the length of " + text, run, x -> x.count(10), 5);
            due.is("19: it is still a log", run, x -> x.fault(), RegattaTimes.NONE);
            due.is("19: and runs as before", run, x -> x.run(), new Story().written(text).answer(x -> x.run()));
            due.is("19: it goes on", run.and(x -> x.append(';')), x -> x.append('r'), 7);
        }
    }
}
