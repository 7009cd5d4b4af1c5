/** The boundaries that promises 1 to 6 name: a new object, enter, prepare, postpone, recall, pass. */
public final class BoatsAndClockEdgesTest {
    private static final Due due = new Due();

    public static void main(String[] args) {
        aNewObjectHasNoBoats();
        aNewObjectHasNoRaces();
        aNewObjectHasTheClockZero();
        aNewObjectHasAnEmptyText();
        aNewObjectHasAnEmptyHistory();
        aNewObjectHasNoSnapshot();
        aNewObjectHasTheFirstSettings();
        ratings();
        enteringWhenARaceHasBeenPrepared();
        nineBoats();
        numbersOfBuoysAndLaps();
        secondsToTheStart();
        preparingWithoutBoats();
        preparingWhenARaceIsPrepared();
        sixRaces();
        preparedBoatsWaitWithoutAnything();
        protestsGoWithTheNextRace();
        secondsToPostpone();
        postponingUpToTheStart();
        postponingWithoutAPreparedRace();
        postponingMovesTheStartAlone();
        recallingFromTheStartOn();
        recallingUpToSixtySecondsAfterTheStart();
        recallingWithoutAPreparedRace();
        recalledBoatsWaitWithoutAnything();
        recalledProtestsAreGone();
        secondsToPass();
        theLastSecond();
        due.end();
    }

    // ---- Promise 1: "a series without boats and races, with the clock 0, with an empty text and an empty
    // history, without a snapshot"

    private static void aNewObjectHasNoBoats() {
        Story s = new Story();
        due.unchanged("1: count(0)", s, x -> x.count(0), 0);
        due.unchanged("1: boat(0, 0)", s, x -> x.boat(0, 0), RegattaTimes.NO_SUCH);
        due.unchanged("1: ranked(1)", s, x -> x.ranked(1), RegattaTimes.NONE);
    }

    private static void aNewObjectHasNoRaces() {
        Story s = new Story();
        due.unchanged("1: count(1)", s, x -> x.count(1), 0);
        due.unchanged("1: count(2)", s, x -> x.count(2), 0);
        due.unchanged("1: count(4), the state of the series", s, x -> x.count(4), 0);
        due.unchanged("1: count(5)", s, x -> x.count(5), 0);
        due.unchanged("1: race(0, 0)", s, x -> x.race(0, 0), RegattaTimes.NO_SUCH);
        due.unchanged("1: protest(0, 0)", s, x -> x.protest(0, 0), RegattaTimes.NO_SUCH);
    }

    private static void aNewObjectHasTheClockZero() {
        Story s = new Story();
        due.unchanged("1: count(3)", s, x -> x.count(3), 0);
        due.is("1: pass(1)", s, x -> x.pass(1), 1);
        due.is("1: save()", s, x -> x.save(), 0);
    }

    private static void aNewObjectHasAnEmptyText() {
        Story s = new Story();
        due.unchanged("1: count(10)", s, x -> x.count(10), 0);
        due.unchanged("1: clearText()", s, x -> x.clearText(), 0);
        due.unchanged("1: fault()", s, x -> x.fault(), 0);
    }

    private static void aNewObjectHasAnEmptyHistory() {
        Story s = new Story();
        due.unchanged("1: count(9)", s, x -> x.count(9), 0);
        due.unchanged("1: undo()", s, x -> x.undo(), RegattaTimes.NONE);
    }

    private static void aNewObjectHasNoSnapshot() {
        due.unchanged("1: restore()", new Story(), x -> x.restore(), RegattaTimes.NOT_POSSIBLE);
    }

    /** "FILE (.. 600 at first), PENALTY (.. 60 at first), DISCARD (.. 4 at first)". */
    private static void aNewObjectHasTheFirstSettings() {
        Story s = new Story();
        due.unchanged("1: count(6)", s, x -> x.count(6), 600);
        due.unchanged("1: count(7)", s, x -> x.count(7), 60);
        due.unchanged("1: count(8)", s, x -> x.count(8), 4);
    }

    // ---- Promise 2

    /** "rating: 50 to 150"; "BAD_VALUE if rating is out of range". */
    private static void ratings() {
        Story none = new Story();
        Story two = Story.fleet(60, 70);
        for (int r = 50; r <= 150; r++) {
            int rating = r;
            due.is("2: enter(" + rating + ")", none, x -> x.enter(rating), 0);
            due.is("2: its rating", none.and(x -> x.enter(rating)), x -> x.boat(0, 0), rating);
        }
        for (int rating : Scene.outside(50, 150)) {
            due.unchanged("2: enter(" + rating + ")", none, x -> x.enter(rating), RegattaTimes.BAD_VALUE);
            due.unchanged("2: a third enter(" + rating + ")", two, x -> x.enter(rating), RegattaTimes.BAD_VALUE);
        }
        due.unchanged("2: enter(0)", two, x -> x.enter(0), RegattaTimes.BAD_VALUE);
    }

    /** "NOT_POSSIBLE if a race has been prepared", whatever has become of it. */
    private static void enteringWhenARaceHasBeenPrepared() {
        Story before = Story.fleet(100);
        Story prepared = before.and(x -> x.prepare(1, 1, 60));
        Story started = prepared.passed(60);
        Story closed = started.and(x -> x.close());
        Story next = closed.and(x -> x.prepare(1, 1, 60));
        due.is("2: before a race is prepared", before, x -> x.enter(100), 1);
        due.unchanged("2: prepared", prepared, x -> x.enter(100), RegattaTimes.NOT_POSSIBLE);
        due.unchanged("2: started", started, x -> x.enter(100), RegattaTimes.NOT_POSSIBLE);
        due.unchanged("2: closed", closed, x -> x.enter(100), RegattaTimes.NOT_POSSIBLE);
        due.unchanged("2: the next race", next, x -> x.enter(100), RegattaTimes.NOT_POSSIBLE);
        due.is("2: with prepare undone", prepared.and(x -> x.undo()), x -> x.enter(100), 1);
        due.is("2: restored", before.and(x -> x.save()).and(x -> x.prepare(1, 1, 60)).and(x -> x.restore()),
                x -> x.enter(100), 1);
    }

    /** "There are at most 9 boats, numbered from 0 in the order in which they were entered". */
    private static void nineBoats() {
        Story s = new Story();
        for (int b = 0; b < 9; b++) {
            int boat = b;
            due.unchanged("2: no boat " + boat + " yet", s, x -> x.boat(boat, 0), RegattaTimes.NO_SUCH);
            due.is("2: the boat " + boat, s, x -> x.enter(50 + boat), boat);
            s = s.and(x -> x.enter(50 + boat));
            due.is("2: boats after it", s, x -> x.count(0), boat + 1);
        }
        for (int b = 0; b < 9; b++) {
            int boat = b;
            due.unchanged("2: the rating of " + boat, s, x -> x.boat(boat, 0), 50 + boat);
        }
        due.unchanged("2: the tenth boat", s, x -> x.enter(100), RegattaTimes.TOO_MANY);
        due.unchanged("2: the tenth boat, rating 50", s, x -> x.enter(50), RegattaTimes.TOO_MANY);
        due.unchanged("2: there is no boat 9", s, x -> x.boat(9, 0), RegattaTimes.NO_SUCH);
        due.is("2: with one undone there is room", s.and(x -> x.undo()), x -> x.enter(100), 8);
    }

    // ---- Promise 3

    /** "buoys: 1 to 5"; "laps: 1 to 3"; "BAD_VALUE if an argument is out of range". */
    private static void numbersOfBuoysAndLaps() {
        Story s = Story.fleet(100, 100);
        for (int b = 1; b <= 5; b++) {
            for (int l = 1; l <= 3; l++) {
                int buoys = b;
                int laps = l;
                due.is("3: " + buoys + " buoys, " + laps + " laps", s, x -> x.prepare(buoys, laps, 60), 0);
                Story prepared = s.and(x -> x.prepare(buoys, laps, 60));
                due.unchanged("3: its buoys", prepared, x -> x.race(0, 0), buoys);
                due.unchanged("3: its laps", prepared, x -> x.race(0, 1), laps);
            }
        }
        for (int wrong : Scene.outside(1, 5)) {
            due.unchanged("3: buoys " + wrong, s, x -> x.prepare(wrong, 1, 60), RegattaTimes.BAD_VALUE);
        }
        for (int wrong : Scene.outside(1, 3)) {
            due.unchanged("3: laps " + wrong, s, x -> x.prepare(1, wrong, 60), RegattaTimes.BAD_VALUE);
        }
    }

    /** "in: 60 to 3600: in how many seconds it starts". */
    private static void secondsToTheStart() {
        Story s = Story.fleet(100).passed(5);
        Story late = Story.fleet(100).passed(999999);
        for (int in : new int[] {60, 61, 3599, 3600}) {
            due.is("3: in " + in + " seconds", s, x -> x.prepare(1, 1, in), 0);
            due.is("3: its start", s.and(x -> x.prepare(1, 1, in)), x -> x.race(0, 2), 5 + in);
            due.is("3: its start, late", late.and(x -> x.prepare(1, 1, in)), x -> x.race(0, 2), 999999 + in);
        }
        for (int in : Scene.outside(60, 3600)) {
            due.unchanged("3: in " + in, s, x -> x.prepare(1, 1, in), RegattaTimes.BAD_VALUE);
        }
        due.unchanged("3: in 0", s, x -> x.prepare(1, 1, 0), RegattaTimes.BAD_VALUE);
    }

    /** "NOT_POSSIBLE if there is no boat". */
    private static void preparingWithoutBoats() {
        Story none = new Story();
        due.unchanged("3: no boat", none, x -> x.prepare(1, 1, 60), RegattaTimes.NOT_POSSIBLE);
        due.unchanged("3: no boat any more", Story.fleet(100).and(x -> x.undo()), x -> x.prepare(1, 1, 60),
                RegattaTimes.NOT_POSSIBLE);
        due.is("3: one boat", Story.fleet(100), x -> x.prepare(1, 1, 60), 0);
        due.is("3: nine boats", Story.fleet(Scene.NINE), x -> x.prepare(1, 1, 60), 0);
    }

    /** "NOT_POSSIBLE .. if a race is prepared", but not when it is closed. */
    private static void preparingWhenARaceIsPrepared() {
        Story prepared = Story.fleet(100).and(x -> x.prepare(1, 1, 60));
        Story started = prepared.passed(60);
        Story closed = started.and(x -> x.close());
        due.unchanged("3: prepared", prepared, x -> x.prepare(2, 2, 99), RegattaTimes.NOT_POSSIBLE);
        due.unchanged("3: started", started, x -> x.prepare(2, 2, 99), RegattaTimes.NOT_POSSIBLE);
        due.is("3: closed", closed, x -> x.prepare(2, 2, 99), 1);
        due.unchanged("3: the next one is prepared", closed.and(x -> x.prepare(1, 1, 60)),
                x -> x.prepare(2, 2, 99), RegattaTimes.NOT_POSSIBLE);
    }

    /** "At most 6 races are sailed, numbered from 0, one after the other". */
    private static void sixRaces() {
        Story s = Story.fleet(100, 100);
        for (int r = 0; r < 6; r++) {
            int race = r;
            due.unchanged("3: no race " + race + " yet", s, x -> x.race(race, 0), RegattaTimes.NO_SUCH);
            due.is("3: the state before it", s, x -> x.count(4), race == 0 ? 0 : 2);
            due.is("3: the race " + race, s, x -> x.prepare(1, 1, 60 + race), race);
            s = s.and(x -> x.prepare(1, 1, 60 + race));
            due.is("3: races then", s, x -> x.count(1), race + 1);
            due.is("3: closed ones then", s, x -> x.count(2), race);
            due.is("3: the state then", s, x -> x.count(4), 1);
            due.unchanged("3: it is prepared", s, x -> x.race(race, 3), 1);
            s = s.passed(60 + race).and(x -> x.close());
            due.unchanged("3: it is closed", s, x -> x.race(race, 3), 2);
        }
        due.unchanged("3: a seventh race", s, x -> x.prepare(1, 1, 60), RegattaTimes.TOO_MANY);
        due.unchanged("3: there is no race 6", s, x -> x.race(6, 0), RegattaTimes.NO_SUCH);
        due.is("3: the last one is closed", s, x -> x.count(4), 2);
    }

    /** A race in which boat 0 is waiting, 1 early, 2 sailing, 3 finished, 4 retired, all of them with more. */
    private static Story eventful() {
        return Story.fleet(100, 100, 100, 100, 100).and(x -> x.prepare(1, 1, 60)).and(x -> x.line(1)).passed(60)
                .and(x -> x.line(2)).and(x -> x.line(3)).and(x -> x.line(4))
                .and(x -> x.buoy(2, 0)).and(x -> x.buoy(2, 0)).and(x -> x.buoy(4, 0)).and(x -> x.buoy(4, 0))
                .and(x -> x.hail(3, 2)).and(x -> x.hail(2, 4)).and(x -> x.hail(3, 4)).and(x -> x.hail(4, 3))
                .and(x -> x.accept(0)).and(x -> x.accept(1)).and(x -> x.retire(4)).and(x -> x.accept(3))
                .and(x -> Scene.finish(x, 3)).and(x -> x.file(2)).and(x -> x.decide(2, true));
    }

    private static void waitsWithoutAnything(String what, Story s, int race) {
        for (int b = 0; b < 5; b++) {
            int boat = b;
            for (int w = 0; w <= 4; w++) {
                int column = w;
                due.unchanged(what + ", result(" + race + ", " + boat + ", " + column + ")", s,
                        x -> x.result(race, boat, column), 0);
            }
            due.is(what + ", no elapsed time", s, x -> x.result(race, boat, 5), RegattaTimes.NONE);
            due.is(what + ", early at once", s, x -> x.line(boat), 1);
        }
        due.is(what + ", none is disqualified", s, x -> x.race(race, 5), 0);
    }

    /** "When a race is prepared, all boats are waiting, without roundings, mistakes and penalties." */
    private static void preparedBoatsWaitWithoutAnything() {
        waitsWithoutAnything("3: the first race", Story.fleet(100, 100, 100, 100, 100)
                .and(x -> x.prepare(1, 1, 60)), 0);
        Story next = eventful().and(x -> x.close()).and(x -> x.prepare(1, 1, 60));
        waitsWithoutAnything("3: the next race", next, 1);
        int[] kinds = {0, 1, 2, 3, 4};
        for (int b = 0; b < 5; b++) {
            int boat = b;
            due.is("3: the race before it", next, x -> x.result(0, boat, 0), kinds[boat]);
        }
        // A race that was prepared, sailed, undone, and is prepared once more.
        Story undone = Story.fleet(100, 100, 100, 100, 100).passed(1).and(x -> x.save())
                .and(x -> x.prepare(1, 1, 60)).passed(60).and(x -> x.line(0)).and(x -> x.buoy(0, 0))
                .and(x -> x.buoy(0, 0)).and(x -> x.line(0)).and(x -> x.restore()).and(x -> x.prepare(1, 1, 60));
        waitsWithoutAnything("3: prepared once more", undone, 0);
    }

    /** "they are gone when the next race is prepared", and not before. */
    private static void protestsGoWithTheNextRace() {
        Story closed = eventful().and(x -> x.close());
        Story next = closed.and(x -> x.prepare(1, 1, 60));
        due.is("3: protests of the closed race", closed, x -> x.count(5), 4);
        due.is("3: protests of the next race", next, x -> x.count(5), 0);
        due.unchanged("3: protest(0, 0)", next, x -> x.protest(0, 0), RegattaTimes.NO_SUCH);
        due.unchanged("3: file(0)", next, x -> x.file(0), RegattaTimes.NO_SUCH);
        due.unchanged("3: accept(0)", next, x -> x.accept(0), RegattaTimes.NO_SUCH);
        due.unchanged("3: decide(0, true)", next, x -> x.decide(0, true), RegattaTimes.NO_SUCH);
        Story hailed = next.passed(60).and(x -> x.line(0)).and(x -> x.line(1)).and(x -> x.hail(1, 0));
        due.is("3: numbered from 0 again", hailed, x -> x.count(5), 1);
        due.is("3: it is hailed", hailed, x -> x.protest(0, 3), 0);
    }

    // ---- Promise 4

    /** "seconds: 1 to 3600"; "BAD_VALUE if seconds is out of range". */
    private static void secondsToPostpone() {
        Story s = Story.fleet(100).passed(7).and(x -> x.prepare(1, 1, 60));
        for (int seconds : new int[] {1, 2, 3599, 3600}) {
            due.is("4: postpone(" + seconds + ")", s, x -> x.postpone(seconds), 67 + seconds);
            due.is("4: the start", s.and(x -> x.postpone(seconds)), x -> x.race(0, 2), 67 + seconds);
        }
        for (int seconds : Scene.outside(1, 3600)) {
            due.unchanged("4: postpone(" + seconds + ")", s, x -> x.postpone(seconds), RegattaTimes.BAD_VALUE);
        }
        Story much = s.and(x -> {
            for (int i = 0; i < 300; i++) {
                x.postpone(3600);
            }
        });
        due.is("4: put off again and again", much, x -> x.race(0, 2), 67 + 300 * 3600);
    }

    /** "NOT_POSSIBLE if .. the clock is not before the start". */
    private static void postponingUpToTheStart() {
        Story prepared = Story.fleet(100).and(x -> x.prepare(1, 1, 60));
        due.is("4: at once", prepared, x -> x.postpone(10), 70);
        due.is("4: a second before the start", prepared.passed(59), x -> x.postpone(10), 70);
        due.unchanged("4: at the start", prepared.passed(60), x -> x.postpone(10), RegattaTimes.NOT_POSSIBLE);
        due.unchanged("4: after the start", prepared.passed(61), x -> x.postpone(10), RegattaTimes.NOT_POSSIBLE);
        Story put = prepared.passed(59).and(x -> x.postpone(1));
        due.is("4: at the former start", put.passed(1), x -> x.postpone(10), 71);
        due.unchanged("4: at the new start", put.passed(2), x -> x.postpone(10), RegattaTimes.NOT_POSSIBLE);
    }

    /** "NOT_POSSIBLE if no race is prepared": there is none yet, or the latest one is closed. */
    private static void postponingWithoutAPreparedRace() {
        Story closed = Story.fleet(100).and(x -> x.prepare(1, 1, 60)).passed(60).and(x -> x.close());
        due.unchanged("4: no boat", new Story(), x -> x.postpone(1), RegattaTimes.NOT_POSSIBLE);
        due.unchanged("4: no race", Story.fleet(100), x -> x.postpone(1), RegattaTimes.NOT_POSSIBLE);
        due.unchanged("4: closed", closed, x -> x.postpone(1), RegattaTimes.NOT_POSSIBLE);
        due.is("4: the next race", closed.and(x -> x.prepare(1, 1, 60)), x -> x.postpone(1), 121);
    }

    private static void postponingMovesTheStartAlone() {
        Story s = Story.fleet(100, 100, 100).and(x -> x.prepare(2, 3, 60)).and(x -> x.line(0))
                .and(x -> x.retire(1)).and(x -> x.postpone(5));
        due.is("4: an early boat", s, x -> x.result(0, 0, 0), 1);
        due.is("4: a retired boat", s, x -> x.result(0, 1, 0), 4);
        due.is("4: a waiting boat", s, x -> x.result(0, 2, 0), 0);
        due.is("4: buoys", s, x -> x.race(0, 0), 2);
        due.is("4: laps", s, x -> x.race(0, 1), 3);
        due.is("4: the clock", s, x -> x.count(3), 0);
        due.is("4: it is early at the former start", s.passed(64), x -> x.line(2), 1);
        due.is("4: it sails at the new start", s.passed(65), x -> x.line(2), 2);
    }

    // ---- Promise 5

    /** "NOT_POSSIBLE if .. the clock is before the start". */
    private static void recallingFromTheStartOn() {
        Story prepared = Story.fleet(100).and(x -> x.prepare(1, 1, 60)).and(x -> x.line(0));
        due.unchanged("5: at once", prepared, x -> x.recall(), RegattaTimes.NOT_POSSIBLE);
        due.unchanged("5: a second before the start", prepared.passed(59), x -> x.recall(),
                RegattaTimes.NOT_POSSIBLE);
        due.is("5: at the start", prepared.passed(60), x -> x.recall(), 360);
        due.unchanged("5: before the start that was put off", prepared.and(x -> x.postpone(1)).passed(60),
                x -> x.recall(), RegattaTimes.NOT_POSSIBLE);
    }

    /** "or more than 60 seconds after it"; "the race starts anew in 300 seconds". */
    private static void recallingUpToSixtySecondsAfterTheStart() {
        Story started = Story.fleet(100).and(x -> x.prepare(1, 1, 60)).passed(60).and(x -> x.line(0));
        for (int after : new int[] {0, 1, 59, 60}) {
            Story s = started.passed(after);
            due.is("5: " + after + " seconds after the start", s, x -> x.recall(), 360 + after);
            Story recalled = s.and(x -> x.recall());
            due.is("5: the new start", recalled, x -> x.race(0, 2), 360 + after);
            due.is("5: the clock stays", recalled, x -> x.count(3), 60 + after);
            due.is("5: it is still prepared", recalled, x -> x.race(0, 3), 1);
        }
        for (int after : new int[] {61, 62, 300, 9999}) {
            due.unchanged("5: " + after + " seconds after the start", started.passed(after), x -> x.recall(),
                    RegattaTimes.NOT_POSSIBLE);
        }
        Story again = started.and(x -> x.recall());
        due.unchanged("5: before the new start", again.passed(299), x -> x.recall(), RegattaTimes.NOT_POSSIBLE);
        due.is("5: 60 seconds after the new start", again.passed(360), x -> x.recall(), 720);
        due.unchanged("5: 61 seconds after it", again.passed(361), x -> x.recall(), RegattaTimes.NOT_POSSIBLE);
    }

    /** "NOT_POSSIBLE if no race is prepared". */
    private static void recallingWithoutAPreparedRace() {
        Story closed = Story.fleet(100).and(x -> x.prepare(1, 1, 60)).passed(60).and(x -> x.close());
        due.unchanged("5: no boat", new Story(), x -> x.recall(), RegattaTimes.NOT_POSSIBLE);
        due.unchanged("5: no race", Story.fleet(100), x -> x.recall(), RegattaTimes.NOT_POSSIBLE);
        due.unchanged("5: closed", closed, x -> x.recall(), RegattaTimes.NOT_POSSIBLE);
    }

    /** "all boats are waiting as when the race was prepared". */
    private static void recalledBoatsWaitWithoutAnything() {
        Story recalled = eventful().and(x -> x.recall());
        waitsWithoutAnything("5: recalled", recalled, 0);
        due.is("5: the buoys stay", recalled, x -> x.race(0, 0), 1);
        due.is("5: the laps stay", recalled, x -> x.race(0, 1), 1);
        Story second = Story.sailing(100, 100).and(x -> Scene.finish(x, 0)).and(x -> x.close())
                .and(x -> Scene.start(x)).and(x -> x.recall());
        due.is("5: the race before it stays", second, x -> x.result(0, 0, 0), 3);
        due.is("5: and its start", second, x -> x.race(0, 2), 60);
        due.is("5: the second one waits", second, x -> x.result(1, 0, 0), 0);
    }

    /** "and its protests are gone". */
    private static void recalledProtestsAreGone() {
        Story recalled = eventful().and(x -> x.recall());
        due.is("5: no protests", recalled, x -> x.count(5), 0);
        due.unchanged("5: protest(0, 0)", recalled, x -> x.protest(0, 0), RegattaTimes.NO_SUCH);
        due.unchanged("5: accept(2)", recalled, x -> x.accept(2), RegattaTimes.NO_SUCH);
        Story full = Story.sailing(100, 100).and(x -> {
            for (int i = 0; i < 10; i++) {
                x.hail(0, 1);
            }
        });
        Story anew = full.and(x -> x.recall()).passed(300).and(x -> x.line(0)).and(x -> x.line(1));
        due.is("5: numbered from 0 again", anew, x -> x.hail(1, 0), 0);
    }

    // ---- Promise 6

    /** "seconds: 1 to 9999"; "BAD_VALUE if seconds is out of range". */
    private static void secondsToPass() {
        Story s = new Story().and(x -> x.pass(3));
        for (int seconds : new int[] {1, 2, 9998, 9999}) {
            due.is("6: pass(" + seconds + ")", s, x -> x.pass(seconds), 3 + seconds);
            due.is("6: the clock", s.and(x -> x.pass(seconds)), x -> x.count(3), 3 + seconds);
        }
        for (int seconds : Scene.outside(1, 9999)) {
            due.unchanged("6: pass(" + seconds + ")", s, x -> x.pass(seconds), RegattaTimes.BAD_VALUE);
        }
        due.unchanged("6: pass(-9999)", s, x -> x.pass(-9999), RegattaTimes.BAD_VALUE);
    }

    /** "TOO_MANY if the clock would be above 999999". */
    private static void theLastSecond() {
        Story s = new Story().passed(990000);
        due.is("6: just the last second", s, x -> x.pass(9999), 999999);
        due.unchanged("6: a second above it", s.passed(1), x -> x.pass(9999), RegattaTimes.TOO_MANY);
        due.is("6: one less", s.passed(1), x -> x.pass(9998), 999999);
        due.is("6: a second before the last one", s.passed(9998), x -> x.pass(1), 999999);
        due.unchanged("6: two from there", s.passed(9998), x -> x.pass(2), RegattaTimes.TOO_MANY);
        due.unchanged("6: one from the last", s.passed(9999), x -> x.pass(1), RegattaTimes.TOO_MANY);
        due.unchanged("6: many from the last", s.passed(9999), x -> x.pass(9999), RegattaTimes.TOO_MANY);
    }
}
