import java.util.ArrayList;
import java.util.List;
import java.util.Map;
import java.util.Random;
import java.util.TreeMap;

/**
 * All promises: long runs of calls, each answered by the program and by the Model. The runs are drawn
 * with fixed seeds, so they are the same each time. At the end every kind of answer of every call must
 * have come often enough, so that no call goes untried.
 */
public final class ModelTest {
    private static final int RUNS = 6000;
    // What later calls answer is free; a step makes at most three calls.
    private static final int CALLS = 512, CALLS_OF_A_STEP = 3;
    private static final int OFTEN = 30;
    private static final int[] WILD = {Integer.MIN_VALUE, Integer.MAX_VALUE, -1, 0, 9, 10, 100, -100, 65536};

    private static final Map<String, Integer> seen = new TreeMap<>();
    private static final Due due = new Due();

    private final Random random;
    private final RegattaTimes x = new RegattaTimes();
    private final Model m = new Model();
    private final List<String> told = new ArrayList<>();
    private final boolean isLong;
    private final boolean isSmall;
    private final boolean isWordy;
    private String plan = "";
    private boolean isWrong = false;

    private ModelTest(long seed) {
        random = new Random(seed);
        // Some runs are to reach the last second, ties and many protests, or a full text.
        isLong = seed % 6 == 0;
        isSmall = seed % 3 == 0;
        isWordy = seed % 5 == 0;
    }

    public static void main(String[] args) {
        int wrongRuns = 0;
        for (int seed = 1; seed <= RUNS && wrongRuns < 3; seed++) {
            if (!new ModelTest(seed).isRight()) {
                wrongRuns++;
            }
        }
        for (String kind : KINDS) {
            due.holds("'" + kind + "' was answered " + OFTEN + " times, but " + seen.getOrDefault(kind, 0),
                    seen.getOrDefault(kind, 0) >= OFTEN);
        }
        due.end();
    }

    private static final String[] KINDS = {
        "enter ok", "enter -2", "enter -3", "enter -4", "prepare ok", "prepare -2", "prepare -3", "prepare -4",
        "postpone ok", "postpone -2", "postpone -4", "recall ok", "recall -4", "pass ok", "pass -2", "pass -3",
        "line ok", "line -1", "line -4", "buoy ok", "buoy -1", "buoy -2", "buoy -4",
        "retire ok", "retire -1", "retire -4", "close ok", "close -4",
        "hail ok", "hail -1", "hail -2", "hail -3", "hail -4", "file ok", "file -1", "file -4",
        "accept ok", "accept -1", "accept -4", "decide ok", "decide -1", "decide -4", "set ok", "set -1", "set -2",
        "append ok", "append -2", "append -3", "clearText ok", "fault ok", "fault -5", "run ok", "run fault",
        "undo ok", "undo -5", "save ok", "restore ok", "restore -4",
        "result ok", "result -1", "result -2", "result -5", "boat ok", "boat -1", "boat -2", "boat -5",
        "ranked ok", "ranked -2", "ranked -5", "race ok", "race -1", "race -2", "race -5",
        "protest ok", "protest -1", "protest -2", "count ok", "count -2",
        "placeNow ok", "placeNow -1", "placeNow -4", "placeNow -5",
        "secondsLeft ok", "secondsLeft -1", "secondsLeft -4", "secondsLeft -5",
        "rankIfDisqualified ok", "rankIfDisqualified -1", "rankIfDisqualified -4", "mean ok"};

    private boolean isRight() {
        while (told.size() + CALLS_OF_A_STEP <= CALLS && !isWrong) {
            step();
        }
        if (isWrong) {
            System.out.println("in the run " + told.subList(Math.max(0, told.size() - 40), told.size()));
        }
        return !isWrong;
    }

    private void check(String name, String call, long got, long want) {
        told.add(call);
        due.is(call, got, want);
        isWrong |= got != want;
        String kind = want >= 0 ? "ok" : want <= -100 ? "fault" : Long.toString(want);
        seen.merge(name + " " + kind, 1, Integer::sum);
    }

    private int any(int from, int to) {
        return from + random.nextInt(to - from + 1);
    }

    private boolean isOneIn(int n) {
        return random.nextInt(n) == 0;
    }

    /** Mostly a number of the range, now and then one beside it, seldom a wild one. */
    private int about(int from, int to) {
        if (isOneIn(60)) {
            return WILD[random.nextInt(WILD.length)];
        }
        return isOneIn(15) ? (random.nextBoolean() ? from - 1 : to + 1) : any(from, to);
    }

    private int aBoat() {
        return about(0, Math.max(0, m.w.ratings.size() - 1));
    }

    private int aRace() {
        return about(0, Math.max(0, m.w.races.size() - 1));
    }

    private int aProtest() {
        return about(0, Math.max(0, m.w.protests.size() - 1));
    }

    private void step() {
        int dice = random.nextInt(100);
        if (dice < 40) {
            query();
        } else if (dice < (isWordy ? 65 : 50)) {
            text();
        } else if (dice < 69 && isOneIn(5)) {
            history();
        } else if (dice < 72 && isOneIn(9)) {
            int setting = about(0, 2);
            int most = setting == 2 ? 6 : isOneIn(2) ? 30 : setting == 0 ? 3600 : 300;
            act("set", setting, about(setting == 2 ? 0 : 1, most), 0);
        } else if (isLong && !isOneIn(3)) {
            pass();
        } else if (isOneIn(25)) {
            anyAction();
        } else {
            sail();
        }
    }

    private void act(String name, int a, int b, int c) {
        int got;
        switch (name) {
            case "enter": got = x.enter(a); break;
            case "prepare": got = x.prepare(a, b, c); break;
            case "postpone": got = x.postpone(a); break;
            case "recall": got = x.recall(); break;
            case "pass": got = x.pass(a); break;
            case "line": got = x.line(a); break;
            case "buoy": got = x.buoy(a, b); break;
            case "retire": got = x.retire(a); break;
            case "close": got = x.close(); break;
            case "hail": got = x.hail(a, b); break;
            case "file": got = x.file(a); break;
            case "accept": got = x.accept(a); break;
            case "decide": got = x.decide(a, b != 0); break;
            case "set": got = x.set(a, b); break;
            case "run": got = x.run(); break;
            default: got = x.restore(); break;
        }
        check(name, name + "(" + a + ", " + b + ", " + c + ")", got, m.act(name, a, b, c));
    }

    private void anyAction() {
        String[] names = {"enter", "prepare", "postpone", "recall", "line", "buoy", "retire", "close", "hail",
            "file", "accept", "decide"};
        String name = names[random.nextInt(names.length)];
        act(name, name.equals("enter") ? about(50, 150) : about(0, 9), about(0, 9), about(60, 600));
    }

    private void pass() {
        int wait = m.open() == null ? 0 : m.open().start - m.w.clock;
        if (isLong && !isOneIn(4)) {
            act("pass", about(9000, 9999), 0, 0);
        } else if (wait > 0 && isOneIn(2)) {
            act("pass", Math.max(1, wait - random.nextInt(2)), 0, 0);
        } else {
            act("pass", isOneIn(8) ? about(1, 9999) : about(1, isSmall ? 2 : 40), 0, 0);
        }
    }

    private void sail() {
        Model.Race open = m.open();
        if (m.w.races.isEmpty() && (m.w.ratings.isEmpty() || !isOneIn(isSmall ? 3 : 9))) {
            int[] ratings = {50, 100, 100, 100, 101, 150};
            act("enter", isOneIn(3) ? about(50, 150) : ratings[random.nextInt(ratings.length)], 0, 0);
        } else if (open == null) {
            if (isOneIn(3)) {
                protests();
            } else {
                act("prepare", about(1, isSmall ? 1 : 3), about(1, isSmall ? 1 : 2), about(60, isOneIn(3) ? 3600 : 70));
            }
        } else if (m.w.clock < open.start) {
            waitForTheStart();
        } else {
            race(open);
        }
    }

    private void waitForTheStart() {
        switch (random.nextInt(6)) {
            case 0: act("line", aBoat(), 0, 0); break;
            case 1: act("postpone", isOneIn(5) ? about(1, 3600) : about(1, 5), 0, 0); break;
            case 2: act(isOneIn(3) ? "close" : isOneIn(2) ? "recall" : "retire", aBoat(), 0, 0); break;
            default: pass(); break;
        }
    }

    private void race(Model.Race open) {
        int dice = random.nextInt(100);
        int boat = aBoat();
        boolean isThere = boat >= 0 && boat < m.w.ratings.size();
        if (dice < 60 && isThere) {
            Model.Entry e = open.entries.get(boat);
            if (e.kind == 2 && e.roundings < open.buoys * open.laps && !isOneIn(8)) {
                act("buoy", boat, isOneIn(8) ? about(0, open.buoys - 1) : e.roundings % open.buoys, 0);
            } else {
                act("line", boat, 0, 0);
            }
        } else if (dice < 75) {
            pass();
        } else if (dice < (isSmall ? 90 : 80)) {
            act("hail", boat, aBoat(), 0);
        } else if (dice < 94) {
            protests();
        } else if (dice < 96) {
            act("retire", boat, 0, 0);
        } else if (dice < 97) {
            act("recall", 0, 0, 0);
        } else {
            act("close", 0, 0, 0);
        }
    }

    private void protests() {
        switch (random.nextInt(4)) {
            case 0: act("accept", aProtest(), 0, 0); break;
            case 1: act("decide", aProtest(), random.nextInt(3), 0); break;
            default: act("file", aProtest(), 0, 0); break;
        }
    }

    private String anEvent() {
        char boat = (char) ('0' + random.nextInt(Math.max(1, m.w.ratings.size())));
        char other = (char) ('0' + random.nextInt(9));
        switch (random.nextInt(6)) {
            case 0: return "+" + any(1, isOneIn(4) ? 999 : 9);
            case 1: return "b" + boat + (char) ('0' + random.nextInt(5));
            case 2: return isOneIn(4) ? "r" + boat : "b" + boat + "0";
            case 3: return "h" + boat + other;
            default: return "l" + boat;
        }
    }

    /** Writes a planned log sign by sign, runs it, and clears the text; now and then something else. */
    private void text() {
        if (isOneIn(20)) {
            check("fault", "fault()", x.fault(), m.fault());
        } else if (isOneIn(60)) {
            check("clearText", "clearText()", x.clearText(), m.clearText());
            plan = "";
        } else if (isOneIn(40)) {
            int character = isOneIn(2) ? about(32, 126) : "+lbrh;0123456789".charAt(random.nextInt(16));
            check("append", "append(" + character + ")", x.append(character), m.append(character));
        } else if (plan.length() > 0) {
            char next = plan.charAt(0);
            plan = plan.substring(1);
            check("append", "append(" + (int) next + ")", x.append(next), m.append(next));
            if (plan.isEmpty()) {
                check("fault", "fault()", x.fault(), m.fault());
                act("run", 0, 0, 0);
            }
        } else {
            planText();
        }
    }

    private void planText() {
        if (!isWordy || isOneIn(20)) {
            check("clearText", "clearText()", x.clearText(), m.clearText());
        }
        StringBuilder events = new StringBuilder(m.text.isEmpty() ? "" : ";");
        events.append(anEvent());
        for (int more = random.nextInt(5); more > 0; more--) {
            events.append(';').append(anEvent());
        }
        plan = events.toString();
    }

    private void history() {
        switch (random.nextInt(5)) {
            case 0: check("save", "save()", x.save(), m.save()); break;
            case 1: act("restore", 0, 0, 0); break;
            default: check("undo", "undo()", x.undo(), m.undo()); break;
        }
    }

    private void query() {
        int boat = aBoat();
        int race = aRace();
        int what;
        switch (random.nextInt(10)) {
            case 0:
            case 1:
                what = about(0, 8);
                check("result", "result(" + race + ", " + boat + ", " + what + ")",
                        x.result(race, boat, what), m.result(race, boat, what));
                break;
            case 2:
                what = about(0, 4);
                check("boat", "boat(" + boat + ", " + what + ")", x.boat(boat, what), m.boat(boat, what));
                break;
            case 3:
                int rank = about(1, Math.max(1, m.w.ratings.size()));
                check("ranked", "ranked(" + rank + ")", x.ranked(rank), m.ranked(rank));
                break;
            case 4:
                what = about(0, 6);
                check("race", "race(" + race + ", " + what + ")", x.race(race, what), m.race(race, what));
                break;
            case 5:
                int protest = aProtest();
                what = about(0, 3);
                check("protest", "protest(" + protest + ", " + what + ")",
                        x.protest(protest, what), m.protest(protest, what));
                break;
            case 6:
                what = about(0, 10);
                check("count", "count(" + what + ")", x.count(what), m.count(what));
                break;
            case 7:
                check("placeNow", "placeNow(" + boat + ")", x.placeNow(boat), m.placeNow(boat));
                break;
            case 8:
                check("secondsLeft", "secondsLeft(" + boat + ")", x.secondsLeft(boat), m.secondsLeft(boat));
                break;
            default:
                check("rankIfDisqualified", "rankIfDisqualified(" + boat + ", " + race + ")",
                        x.rankIfDisqualified(boat, race), m.rankIfDisqualified(boat, race));
                check("mean", "mean(" + boat + ")", Float.floatToIntBits(x.mean(boat)),
                        Float.floatToIntBits(m.mean(boat)));
                break;
        }
    }
}
