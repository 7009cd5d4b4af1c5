/**
 * "The error codes of a method are listed in the order in which they are checked, and the first one that
 * applies is returned." Each pair of codes of a method that can apply at once, and that nothing is changed.
 */
public final class ErrorOrderTest {
    private static final Due due = new Due();
    private static final Story NEW = new Story();
    private static final Story TWO = Story.fleet(100, 100);
    private static final Story NINE = Story.fleet(Scene.NINE);
    private static final Story PREPARED = TWO.and(x -> x.prepare(2, 1, 60));
    private static final Story STARTED = PREPARED.passed(60);
    private static final Story CLOSED = STARTED.and(x -> x.close());
    private static final Story SIX = TWO.and(x -> sail(x, 6));
    private static final Story LATE = NEW.passed(999999);
    private static final Story HAILED = Story.sailing(100, 100).and(x -> {
        for (int protest = 0; protest < 10; protest++) {
            x.hail(0, 1);
        }
    });

    public static void main(String[] args) {
        enter();
        prepare();
        postpone();
        pass();
        line();
        buoy();
        retire();
        hail();
        protests();
        set();
        append();
        run();
        result();
        boatAndRanked();
        race();
        protest();
        placeNow();
        secondsLeft();
        rankIfDisqualified();
        due.end();
    }

    private static void sail(RegattaTimes x, int races) {
        for (int race = 0; race < races; race++) {
            x.prepare(1, 1, 60);
            x.pass(60);
            x.close();
        }
    }

    private static void noSuch(String what, Story s, Story.Call call) {
        due.unchanged(what, s, call, RegattaTimes.NO_SUCH);
    }

    private static void badValue(String what, Story s, Story.Call call) {
        due.unchanged(what, s, call, RegattaTimes.BAD_VALUE);
    }

    private static void notPossible(String what, Story s, Story.Call call) {
        due.unchanged(what, s, call, RegattaTimes.NOT_POSSIBLE);
    }

    /** BAD_VALUE, NOT_POSSIBLE, TOO_MANY. */
    private static void enter() {
        badValue("2: a bad rating, a race is prepared", PREPARED, x -> x.enter(49));
        badValue("2: a bad rating, a race is closed", CLOSED, x -> x.enter(151));
        badValue("2: a bad rating, nine boats", NINE, x -> x.enter(151));
        badValue("2: a bad rating, nine boats and a race", NINE.and(x -> x.prepare(1, 1, 60)), x -> x.enter(0));
        notPossible("2: nine boats and a race", NINE.and(x -> x.prepare(1, 1, 60)), x -> x.enter(100));
    }

    /** BAD_VALUE, NOT_POSSIBLE, TOO_MANY. */
    private static void prepare() {
        badValue("3: bad buoys, no boat", NEW, x -> x.prepare(6, 1, 60));
        badValue("3: bad laps, a race is prepared", PREPARED, x -> x.prepare(1, 0, 60));
        badValue("3: a bad wait, a race is prepared", PREPARED, x -> x.prepare(1, 1, 59));
        badValue("3: a bad wait, six races", SIX, x -> x.prepare(1, 1, 3601));
        Story sixth = TWO.and(x -> sail(x, 5)).and(x -> x.prepare(1, 1, 60));
        badValue("3: bad buoys, the sixth race is prepared", sixth, x -> x.prepare(0, 1, 60));
        notPossible("3: the sixth race is prepared", sixth, x -> x.prepare(1, 1, 60));
    }

    /** BAD_VALUE, NOT_POSSIBLE. */
    private static void postpone() {
        badValue("4: bad seconds, no race", NEW, x -> x.postpone(0));
        badValue("4: bad seconds, started", STARTED, x -> x.postpone(3601));
        badValue("4: bad seconds, closed", CLOSED, x -> x.postpone(-1));
    }

    /** BAD_VALUE, TOO_MANY. */
    private static void pass() {
        badValue("6: more than can pass at once, the last second", LATE, x -> x.pass(10000));
        badValue("6: nothing, the last second", LATE, x -> x.pass(0));
        badValue("6: the greatest number, the last second", LATE, x -> x.pass(Integer.MAX_VALUE));
    }

    /** NO_SUCH, NOT_POSSIBLE. */
    private static void line() {
        noSuch("7: no boat, no race", TWO, x -> x.line(2));
        noSuch("7: no boat, closed", CLOSED, x -> x.line(-1));
        notPossible("7: a boat, closed", CLOSED, x -> x.line(1));
    }

    /** NO_SUCH, BAD_VALUE, NOT_POSSIBLE. */
    private static void buoy() {
        noSuch("8: no boat, no race", TWO, x -> x.buoy(2, 0));
        noSuch("8: no boat, a bad buoy", STARTED, x -> x.buoy(2, 5));
        noSuch("8: no boat, closed", CLOSED, x -> x.buoy(-1, 0));
        badValue("8: a bad buoy, a waiting boat", STARTED, x -> x.buoy(0, 2));
        badValue("8: a bad buoy, a retired boat", STARTED.and(x -> x.retire(0)), x -> x.buoy(0, -1));
        badValue("8: closed, a waiting boat", CLOSED, x -> x.buoy(0, 0));
        notPossible("8: a waiting boat", STARTED, x -> x.buoy(0, 1));
    }

    /** NO_SUCH, NOT_POSSIBLE. */
    private static void retire() {
        noSuch("9: no boat, no race", TWO, x -> x.retire(2));
        noSuch("9: no boat, closed", CLOSED, x -> x.retire(-1));
        notPossible("9: a boat, closed", CLOSED, x -> x.retire(1));
    }

    /** NO_SUCH, BAD_VALUE, NOT_POSSIBLE, TOO_MANY. */
    private static void hail() {
        noSuch("11: no boat twice", STARTED, x -> x.hail(2, 2));
        noSuch("11: no boat twice, below", STARTED, x -> x.hail(-1, -1));
        noSuch("11: no boat, no race", TWO, x -> x.hail(0, 2));
        noSuch("11: no boat, ten protests", HAILED, x -> x.hail(2, 0));
        badValue("11: the same, no race", TWO, x -> x.hail(1, 1));
        badValue("11: the same, both waiting", STARTED, x -> x.hail(1, 1));
        badValue("11: the same, closed", CLOSED, x -> x.hail(1, 1));
        badValue("11: the same, ten protests", HAILED, x -> x.hail(1, 1));
        notPossible("11: retired, ten protests", HAILED.and(x -> x.retire(0)), x -> x.hail(0, 1));
        notPossible("11: against a retired boat, ten protests", HAILED.and(x -> x.retire(1)), x -> x.hail(0, 1));
        notPossible("11: closed, ten protests", HAILED.and(x -> x.close()), x -> x.hail(0, 1));
    }

    /** NO_SUCH, NOT_POSSIBLE: of a protest that is not nothing can be told. */
    private static void protests() {
        for (Story s : new Story[] {NEW, TWO, PREPARED, CLOSED, HAILED, HAILED.and(x -> x.close())}) {
            noSuch("12: file(10)", s, x -> x.file(10));
            noSuch("13: accept(10)", s, x -> x.accept(10));
            noSuch("14: decide(10, true)", s, x -> x.decide(10, true));
        }
    }

    /** NO_SUCH, BAD_VALUE. */
    private static void set() {
        noSuch("15: no setting, a bad value", NEW, x -> x.set(3, 0));
        noSuch("15: no setting, a bad value below", NEW, x -> x.set(-1, Integer.MIN_VALUE));
    }

    /** BAD_VALUE, TOO_MANY. */
    private static void append() {
        Story full = NEW.written("z".repeat(80));
        badValue("16: a bad character, 80 are there", full, x -> x.append(31));
        badValue("16: another bad character, 80 are there", full, x -> x.append(127));
    }

    /** The fault is told whatever the events would answer. */
    private static void run() {
        Story s = TWO.written("l9");
        due.unchanged("19: a fault, no race", s, x -> x.run(), -101);
        due.unchanged("19: an event that is not possible before a fault", TWO.written("l0;l9"), x -> x.run(), -104);
        due.unchanged("19: a fault in the last second", LATE.written("+1;"), x -> x.run(), -103);
    }

    /** NO_SUCH, BAD_VALUE. */
    private static void result() {
        noSuch("23: no race, a bad what", TWO, x -> x.result(0, 0, 9));
        noSuch("23: no boat, a bad what", PREPARED, x -> x.result(0, 2, 9));
        noSuch("23: neither, a bad what", PREPARED, x -> x.result(1, 2, -1));
        badValue("23: not closed, a bad what", PREPARED, x -> x.result(0, 1, 9));
    }

    /** NO_SUCH, BAD_VALUE; and BAD_VALUE before NONE. */
    private static void boatAndRanked() {
        noSuch("24: no boat, a bad what", TWO, x -> x.boat(2, 5));
        noSuch("24: no boat at all, a bad what", NEW, x -> x.boat(0, -1));
        badValue("25: no boat at all, rank 0", NEW, x -> x.ranked(0));
    }

    /** NO_SUCH, BAD_VALUE. */
    private static void race() {
        noSuch("26: no race, a bad what", TWO, x -> x.race(0, 7));
        noSuch("26: race 1, a bad what", PREPARED, x -> x.race(1, -1));
    }

    /** NO_SUCH, BAD_VALUE. */
    private static void protest() {
        noSuch("27: no protest, a bad what", STARTED, x -> x.protest(0, 4));
        noSuch("27: protest 10, a bad what", HAILED, x -> x.protest(10, -1));
    }

    /** NO_SUCH, NOT_POSSIBLE, and then NONE. */
    private static void placeNow() {
        noSuch("29: no boat, no race", TWO, x -> x.placeNow(2));
        noSuch("29: no boat, closed", CLOSED, x -> x.placeNow(-1));
        notPossible("29: closed, not finished", CLOSED, x -> x.placeNow(0));
        notPossible("29: no race, not finished", TWO, x -> x.placeNow(0));
    }

    /** NO_SUCH, NOT_POSSIBLE, and then NONE. */
    private static void secondsLeft() {
        noSuch("30: no boat, no race", TWO, x -> x.secondsLeft(2));
        noSuch("30: no boat, closed", CLOSED, x -> x.secondsLeft(-1));
        notPossible("30: closed, none has finished", CLOSED, x -> x.secondsLeft(0));
        notPossible("30: waiting, none has finished", STARTED, x -> x.secondsLeft(0));
    }

    /** NO_SUCH, NOT_POSSIBLE. */
    private static void rankIfDisqualified() {
        noSuch("31: no boat, a race that is not closed", PREPARED, x -> x.rankIfDisqualified(2, 0));
        noSuch("31: no race, none is closed", PREPARED, x -> x.rankIfDisqualified(0, 1));
        notPossible("31: a race that is not closed", PREPARED, x -> x.rankIfDisqualified(0, 0));
    }
}
