/** The boundaries that promises 23 to 28 name: result, boat, ranked, race, protest, count. */
public final class QueriesEdgesTest {
    private static final Due due = new Due();
    private static final Story NEW = new Story();

    public static void main(String[] args) {
        resultOfNoRace();
        resultOfNoBoat();
        resultOfNothing();
        resultBeforeAndAfterTheFinish();
        resultBeforeAndAfterTheClose();
        resultWhetherDisqualified();
        boatThatIsNot();
        boatOfNothing();
        boatWithoutClosedRaces();
        boatWithPlacesOne();
        rankedFromOneOn();
        rankedUpToTheNumberOfBoats();
        raceThatIsNot();
        raceOfNothing();
        racePreparedOrClosed();
        raceFinishedAndDisqualified();
        raceByRaceInAFullSeries();
        raceLeaders();
        protestThatIsNot();
        protestOfNothing();
        protestOfTheLatestRace();
        countOfNothing();
        countsFromTheEmptyToTheFull();
        countTheStateOfTheLatestRace();
        due.end();
    }

    /** Boat 0 waits, 1 is early, 2 sails, 3 is finished with 10 seconds, 4 is retired, 5 is disqualified with 20. */
    private static Story kinds() {
        return Story.fleet(100, 100, 100, 100, 100, 50).and(x -> x.prepare(1, 1, 60)).and(x -> x.line(1))
                .passed(60).and(x -> {
                    for (int boat = 2; boat < 6; boat++) {
                        x.line(boat);
                    }
                    x.hail(3, 5);
                    x.pass(10);
                    Scene.finish(x, 3);
                    Scene.finish(x, 5);
                    x.retire(4);
                    x.file(0);
                    x.decide(0, true);
                });
    }

    /** All six races are closed. */
    private static Story six() {
        return Story.fleet(100, 100).and(x -> {
            for (int race = 0; race < 6; race++) {
                Scene.sail(x, race % 2, 1 - race % 2);
            }
        });
    }

    // ---- Promise 23

    /** "race: number of a race that has been prepared"; "NO_SUCH if there is no such race". */
    private static void resultOfNoRace() {
        due.unchanged("23: no race, no boat", NEW, x -> x.result(0, 0, 0), RegattaTimes.NO_SUCH);
        due.unchanged("23: no race yet", Story.fleet(100), x -> x.result(0, 0, 0), RegattaTimes.NO_SUCH);
        Story one = kinds();
        for (int race : Scene.outside(0, 0)) {
            due.unchanged("23: race " + race + " of one", one, x -> x.result(race, 0, 0), RegattaTimes.NO_SUCH);
        }
        due.unchanged("23: a prepared one", one, x -> x.result(0, 2, 0), 2);
        due.unchanged("23: the last of six", six(), x -> x.result(5, 1, 8), 1);
        for (int race : Scene.outside(0, 5)) {
            due.unchanged("23: race " + race + " of six", six(), x -> x.result(race, 1, 8), RegattaTimes.NO_SUCH);
        }
    }

    /** "NO_SUCH if there is no such .. boat". */
    private static void resultOfNoBoat() {
        Story s = kinds();
        for (int boat : Scene.outside(0, 5)) {
            due.unchanged("23: boat " + boat, s, x -> x.result(0, boat, 0), RegattaTimes.NO_SUCH);
        }
        Story nine = Story.sailing(Scene.NINE);
        due.unchanged("23: the last of nine", nine, x -> x.result(0, 8, 0), 2);
        due.unchanged("23: a tenth boat", nine, x -> x.result(0, 9, 0), RegattaTimes.NO_SUCH);
    }

    /** "BAD_VALUE if what is out of range": 0 to 8. */
    private static void resultOfNothing() {
        int[] want = {3, 1, 0, 0, 0, 10, 10, RegattaTimes.NONE, RegattaTimes.NONE};
        Story s = kinds();
        for (int w = 0; w <= 8; w++) {
            int what = w;
            due.unchanged("23: result(0, 3, " + what + ")", s, x -> x.result(0, 3, what), want[what]);
        }
        for (int what : Scene.outside(0, 8)) {
            due.unchanged("23: result(0, 3, " + what + ")", s, x -> x.result(0, 3, what), RegattaTimes.BAD_VALUE);
        }
    }

    /** "(5 and 6: NONE if it is not finished)". */
    private static void resultBeforeAndAfterTheFinish() {
        Story open = kinds();
        Story closed = open.and(x -> x.close());
        for (int b = 0; b < 6; b++) {
            int boat = b;
            boolean isFinished = boat == 3 || boat == 5;
            int elapsed = isFinished ? 10 : RegattaTimes.NONE;
            int corrected = boat == 3 ? 10 : boat == 5 ? 20 : RegattaTimes.NONE;
            due.unchanged("23: what it is", open, x -> x.result(0, boat, 0), boat == 5 ? 3 : boat);
            due.unchanged("23: elapsed time of " + boat, open, x -> x.result(0, boat, 5), elapsed);
            due.unchanged("23: corrected time of " + boat, open, x -> x.result(0, boat, 6), corrected);
            due.unchanged("23: closed, elapsed time of " + boat, closed, x -> x.result(0, boat, 5), elapsed);
            due.unchanged("23: closed, corrected time of " + boat, closed, x -> x.result(0, boat, 6), corrected);
        }
    }

    /** "7 for its place (NONE if it has none, or the race is not closed), 8 for its points (NONE if .. not closed)". */
    private static void resultBeforeAndAfterTheClose() {
        Story open = kinds();
        Story closed = open.and(x -> x.close());
        Story next = closed.and(x -> x.prepare(1, 1, 60));
        int[] points = {7, 7, 7, 1, 7, 8};
        for (int b = 0; b < 6; b++) {
            int boat = b;
            int place = boat == 3 ? 1 : RegattaTimes.NONE;
            due.unchanged("23: no place of " + boat, open, x -> x.result(0, boat, 7), RegattaTimes.NONE);
            due.unchanged("23: no points of " + boat, open, x -> x.result(0, boat, 8), RegattaTimes.NONE);
            due.unchanged("23: place of " + boat, closed, x -> x.result(0, boat, 7), place);
            due.unchanged("23: points of " + boat, closed, x -> x.result(0, boat, 8), points[boat]);
            due.unchanged("23: its place stays", next, x -> x.result(0, boat, 7), place);
            due.unchanged("23: its points stay", next, x -> x.result(0, boat, 8), points[boat]);
            due.unchanged("23: none in the next race", next, x -> x.result(1, boat, 7), RegattaTimes.NONE);
            due.unchanged("23: no points there", next, x -> x.result(1, boat, 8), RegattaTimes.NONE);
        }
    }

    /** "4 for whether it is disqualified (1 or 0)". */
    private static void resultWhetherDisqualified() {
        Story s = kinds();
        for (int b = 0; b < 6; b++) {
            int boat = b;
            due.unchanged("23: disqualified, boat " + boat, s, x -> x.result(0, boat, 4), boat == 5 ? 1 : 0);
        }
    }

    // ---- Promise 24

    /** "NO_SUCH if there is no such boat". */
    private static void boatThatIsNot() {
        due.unchanged("24: no boat", NEW, x -> x.boat(0, 0), RegattaTimes.NO_SUCH);
        Story s = Story.fleet(60, 70);
        for (int boat : Scene.outside(0, 1)) {
            due.unchanged("24: boat(" + boat + ", 0)", s, x -> x.boat(boat, 0), RegattaTimes.NO_SUCH);
            due.unchanged("24: boat(" + boat + ", 4)", s, x -> x.boat(boat, 4), RegattaTimes.NO_SUCH);
        }
        due.unchanged("24: the last of two", s, x -> x.boat(1, 0), 70);
        due.unchanged("24: the last of nine", Story.fleet(Scene.NINE), x -> x.boat(8, 2), 9);
        due.unchanged("24: a tenth", Story.fleet(Scene.NINE), x -> x.boat(9, 2), RegattaTimes.NO_SUCH);
    }

    /** "BAD_VALUE if what is out of range": 0 to 4. */
    private static void boatOfNothing() {
        int[] want = {100, 7, 2, 5, 3};
        Story s = six();
        for (int w = 0; w <= 4; w++) {
            int what = w;
            due.unchanged("24: boat(0, " + what + ")", s, x -> x.boat(0, what), want[what]);
        }
        for (int what : Scene.outside(0, 4)) {
            due.unchanged("24: boat(1, " + what + ")", s, x -> x.boat(1, what), RegattaTimes.BAD_VALUE);
        }
    }

    /** "NONE if none is" left out; all else is counted from nothing. */
    private static void boatWithoutClosedRaces() {
        int[] want = {100, 0, 9, RegattaTimes.NONE, 0};
        for (int w = 0; w <= 4; w++) {
            int what = w;
            due.unchanged("24: no race, what " + what, Story.fleet(Scene.NINE), x -> x.boat(8, what), want[what]);
            due.unchanged("24: a prepared race, what " + what, Story.sailing(Scene.NINE), x -> x.boat(8, what),
                    want[what]);
        }
    }

    /** "4 for its places 1 in closed races": 0 to 6. */
    private static void boatWithPlacesOne() {
        Story s = Story.fleet(100, 100);
        for (int races = 0; races <= 6; races++) {
            due.unchanged("24: places 1 of 0", s, x -> x.boat(0, 4), races);
            due.unchanged("24: places 1 of 1", s, x -> x.boat(1, 4), 0);
            s = s.and(x -> Scene.sail(x, 0, 1));
        }
    }

    // ---- Promise 25

    /** "BAD_VALUE if rank is below 1". */
    private static void rankedFromOneOn() {
        Story s = six();
        for (int rank : new int[] {0, -1, -9, Integer.MIN_VALUE}) {
            due.unchanged("25: ranked(" + rank + ")", s, x -> x.ranked(rank), RegattaTimes.BAD_VALUE);
            due.unchanged("25: no boat, ranked(" + rank + ")", NEW, x -> x.ranked(rank), RegattaTimes.BAD_VALUE);
        }
        due.unchanged("25: ranked(1)", s, x -> x.ranked(1), 1);
    }

    /** "NONE if there are not so many boats". */
    private static void rankedUpToTheNumberOfBoats() {
        Story s = NEW;
        for (int boats = 0; boats <= 9; boats++) {
            int last = boats;
            due.unchanged("25: one more than " + boats, s, x -> x.ranked(last + 1), RegattaTimes.NONE);
            due.unchanged("25: far more than " + boats, s, x -> x.ranked(Integer.MAX_VALUE), RegattaTimes.NONE);
            if (boats > 0) {
                due.unchanged("25: the last of " + boats, s, x -> x.ranked(last), last - 1);
            }
            s = s.and(x -> x.enter(100));
        }
    }

    // ---- Promise 26

    /** "NO_SUCH if there is no such race". */
    private static void raceThatIsNot() {
        due.unchanged("26: no race", Story.fleet(100), x -> x.race(0, 0), RegattaTimes.NO_SUCH);
        Story s = Story.sailing(100);
        for (int race : Scene.outside(0, 0)) {
            due.unchanged("26: race(" + race + ", 0)", s, x -> x.race(race, 0), RegattaTimes.NO_SUCH);
        }
        for (int race : Scene.outside(0, 5)) {
            due.unchanged("26: race(" + race + ", 3) of six", six(), x -> x.race(race, 3), RegattaTimes.NO_SUCH);
        }
        due.unchanged("26: the last of six", six(), x -> x.race(5, 3), 2);
    }

    /** "BAD_VALUE if what is out of range": 0 to 6. */
    private static void raceOfNothing() {
        int[] want = {1, 1, 60, 1, 2, 1, 3};
        Story s = kinds();
        for (int w = 0; w <= 6; w++) {
            int what = w;
            due.unchanged("26: race(0, " + what + ")", s, x -> x.race(0, what), want[what]);
        }
        for (int what : Scene.outside(0, 6)) {
            due.unchanged("26: race(0, " + what + ")", s, x -> x.race(0, what), RegattaTimes.BAD_VALUE);
        }
    }

    /** "3 for 1 if it is prepared and 2 if it is closed". */
    private static void racePreparedOrClosed() {
        Story open = kinds();
        Story closed = open.and(x -> x.close());
        Story next = closed.and(x -> x.prepare(1, 1, 60));
        due.unchanged("26: prepared", open, x -> x.race(0, 3), 1);
        due.unchanged("26: closed", closed, x -> x.race(0, 3), 2);
        due.unchanged("26: closed, the next one is prepared", next, x -> x.race(0, 3), 2);
        due.unchanged("26: the next one", next, x -> x.race(1, 3), 1);
        due.unchanged("26: the close undone", closed.and(x -> x.undo()), x -> x.race(0, 3), 1);
    }

    /** "4 for finished boats, 5 for disqualified boats": none of them up to all nine. */
    private static void raceFinishedAndDisqualified() {
        Story s = Story.sailing(Scene.NINE).and(x -> {
            for (int boat = 0; boat < 9; boat++) {
                x.hail((boat + 1) % 9, boat);
            }
        });
        for (int b = 0; b < 9; b++) {
            int boat = b;
            due.unchanged("26: finished boats", s, x -> x.race(0, 4), boat);
            s = s.and(x -> Scene.finish(x, boat));
        }
        for (int p = 0; p < 9; p++) {
            int protest = p;
            due.unchanged("26: all are finished", s, x -> x.race(0, 4), 9);
            due.unchanged("26: disqualified boats", s, x -> x.race(0, 5), protest);
            s = s.and(x -> x.file(protest)).and(x -> x.decide(protest, true));
        }
        due.unchanged("26: all are disqualified", s, x -> x.race(0, 5), 9);
    }

    /** With all nine boats in all six races: in race r the first r boats finish, and boat 8 is disqualified. */
    private static void raceByRaceInAFullSeries() {
        Story s = Story.fleet(Scene.NINE).and(x -> {
            for (int race = 0; race < 6; race++) {
                int[] seconds = {0, 0, 0, 0, 0, 0, 0, 0, race == 0 ? Scene.UNFINISHED : Scene.DISQUALIFIED};
                for (int boat = 0; boat < race; boat++) {
                    seconds[boat] = 1;
                }
                Scene.sailResults(x, seconds);
            }
        });
        for (int r = 0; r < 6; r++) {
            int race = r;
            due.unchanged("26: finished boats of race " + race, s, x -> x.race(race, 4), race);
            due.unchanged("26: disqualified boats of race " + race, s, x -> x.race(race, 5), race == 0 ? 0 : 1);
            due.unchanged("26: the leader of race " + race, s, x -> x.race(race, 6),
                    race == 0 ? RegattaTimes.NONE : 0);
            for (int b = 0; b < 9; b++) {
                int boat = b;
                int points = boat < race ? 1 : boat == 8 && race > 0 ? 11 : 10;
                due.is("23: what it is", s, x -> x.result(race, boat, 0), boat < race ? 3 : 2);
                due.is("23: its points", s, x -> x.result(race, boat, 8), points);
            }
        }
    }

    /** "(of several the lowest number; NONE if there is none)". */
    private static void raceLeaders() {
        Story s = Story.sailing(100, 100, 100).and(x -> x.hail(1, 2)).and(x -> x.hail(2, 1));
        due.unchanged("26: none is finished", s, x -> x.race(0, 6), RegattaTimes.NONE);
        Story one = s.passed(5).and(x -> Scene.finish(x, 2));
        due.unchanged("26: one is finished", one, x -> x.race(0, 6), 2);
        Story two = one.and(x -> Scene.finish(x, 1));
        due.unchanged("26: of two the lower one", two, x -> x.race(0, 6), 1);
        Story three = two.passed(1).and(x -> Scene.finish(x, 0));
        due.unchanged("26: a later one is not the least", three, x -> x.race(0, 6), 1);
        Story less = three.and(x -> x.file(1)).and(x -> x.decide(1, true));
        due.unchanged("26: the least one is disqualified", less, x -> x.race(0, 6), 2);
        Story none = two.and(x -> x.file(0)).and(x -> x.file(1)).and(x -> x.decide(0, true))
                .and(x -> x.decide(1, true));
        due.unchanged("26: all finished ones are disqualified", none, x -> x.race(0, 6), RegattaTimes.NONE);
        due.unchanged("26: closed", less.and(x -> x.close()), x -> x.race(0, 6), 2);
        due.unchanged("26: none, closed", none.and(x -> x.close()), x -> x.race(0, 6), RegattaTimes.NONE);
        Story all = Story.sailing(Scene.NINE).and(x -> {
            for (int boat = 8; boat >= 0; boat--) {
                Scene.finish(x, boat);
            }
        });
        due.unchanged("26: of all nine the lowest", all, x -> x.race(0, 6), 0);
    }

    // ---- Promise 27

    /** "NO_SUCH if there is no such protest". */
    private static void protestThatIsNot() {
        due.unchanged("27: no race", NEW, x -> x.protest(0, 0), RegattaTimes.NO_SUCH);
        due.unchanged("27: none is hailed", Story.sailing(100, 100), x -> x.protest(0, 0), RegattaTimes.NO_SUCH);
        Story s = Story.sailing(100, 100).and(x -> x.hail(0, 1)).and(x -> x.hail(1, 0));
        for (int protest : Scene.outside(0, 1)) {
            due.unchanged("27: protest(" + protest + ", 0)", s, x -> x.protest(protest, 0), RegattaTimes.NO_SUCH);
        }
        due.unchanged("27: the last of two", s, x -> x.protest(1, 0), 1);
        Story ten = Story.sailing(100, 100).and(x -> {
            for (int protest = 0; protest < 10; protest++) {
                x.hail(1, 0);
            }
        });
        due.unchanged("27: the last of ten", ten, x -> x.protest(9, 0), 1);
        due.unchanged("27: an eleventh", ten, x -> x.protest(10, 0), RegattaTimes.NO_SUCH);
    }

    /** "BAD_VALUE if what is out of range": 0 to 3. */
    private static void protestOfNothing() {
        int[] want = {1, 0, 67, 0};
        Story s = Story.sailing(100, 100).passed(7).and(x -> x.hail(1, 0)).passed(5);
        for (int w = 0; w <= 3; w++) {
            int what = w;
            due.unchanged("27: protest(0, " + what + ")", s, x -> x.protest(0, what), want[what]);
        }
        for (int what : Scene.outside(0, 3)) {
            due.unchanged("27: protest(0, " + what + ")", s, x -> x.protest(0, what), RegattaTimes.BAD_VALUE);
        }
    }

    /** "a protest of the latest race": closed or not, until the next one is prepared. */
    private static void protestOfTheLatestRace() {
        Story s = Story.sailing(100, 100).and(x -> x.hail(1, 0)).and(x -> x.close());
        due.unchanged("27: closed", s, x -> x.protest(0, 0), 1);
        due.unchanged("27: the next one", s.and(x -> x.prepare(1, 1, 60)), x -> x.protest(0, 0),
                RegattaTimes.NO_SUCH);
        due.unchanged("27: the next one undone", s.and(x -> x.prepare(1, 1, 60)).and(x -> x.undo()),
                x -> x.protest(0, 0), 1);
    }

    // ---- Promise 28

    /** "BAD_VALUE if what is out of range": 0 to 10. */
    private static void countOfNothing() {
        int[] want = {6, 1, 0, 70, 1, 1, 600, 60, 4, 4, 2};
        Story s = kinds().written("+1");
        for (int w = 0; w <= 10; w++) {
            int what = w;
            due.unchanged("28: count(" + what + ")", s, x -> x.count(what), want[what]);
        }
        for (int what : Scene.outside(0, 10)) {
            due.unchanged("28: count(" + what + ")", s, x -> x.count(what), RegattaTimes.BAD_VALUE);
            due.unchanged("28: a new object, count(" + what + ")", NEW, x -> x.count(what), RegattaTimes.BAD_VALUE);
        }
    }

    private static void countsFromTheEmptyToTheFull() {
        int[] empty = {0, 0, 0, 0, 0, 0, 600, 60, 4, 0, 0};
        int[] full = {9, 6, 6, 999999, 2, 10, 3600, 300, 6, 4, 80};
        Story s = Story.fleet(Scene.NINE).and(x -> {
            for (int race = 0; race < 5; race++) {
                x.prepare(1, 1, 60);
                x.pass(60);
                x.close();
            }
            Scene.start(x);
            for (int protest = 0; protest < 10; protest++) {
                x.hail(0, 8);
            }
            x.close();
            x.set(RegattaTimes.FILE, 3600);
            x.set(RegattaTimes.PENALTY, 300);
            x.set(RegattaTimes.DISCARD, 6);
            Scene.write(x, "b84;".repeat(20));
        }).passed(999999 - 360);
        for (int w = 0; w <= 10; w++) {
            int what = w;
            due.is("28: the empty, count(" + what + ")", NEW, x -> x.count(what), empty[what]);
            due.is("28: the full, count(" + what + ")", s, x -> x.count(what), full[what]);
        }
    }

    /** "4 for the state of the latest race (0 if there is none)". */
    private static void countTheStateOfTheLatestRace() {
        Story s = Story.fleet(100);
        due.unchanged("28: none", s, x -> x.count(4), 0);
        due.unchanged("28: none, without boats", NEW, x -> x.count(4), 0);
        for (int race = 0; race < 6; race++) {
            s = s.and(x -> x.prepare(1, 1, 60));
            due.unchanged("28: prepared", s, x -> x.count(4), 1);
            s = s.passed(60);
            due.unchanged("28: started", s, x -> x.count(4), 1);
            s = s.and(x -> x.close());
            due.unchanged("28: closed", s, x -> x.count(4), 2);
        }
    }
}
