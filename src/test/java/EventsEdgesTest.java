/** The boundaries that promises 7 to 10 name: line, buoy, retire, close. */
public final class EventsEdgesTest {
    private static final Due due = new Due();

    public static void main(String[] args) {
        aWaitingBoatCrosses();
        anEarlyBoatCrosses();
        aSailingBoatCrossesWithAllRoundings();
        aSailingBoatCrossesWithRoundingsMissing();
        aFinishedBoatCrosses();
        aRetiredBoatCrosses();
        crossingByNoBoat();
        crossingWithoutAPreparedRace();
        theFinishIsTheClock();
        roundingsLapByLap();
        wrongBuoysAreMistakes();
        buoysAfterAllRoundingsAreMistakes();
        buoysOfTheRace();
        buoysWithoutAPreparedRace();
        passedByABoatThatDoesNotSail();
        passedByNoBoat();
        retiringBoats();
        retiringFinishedOrRetiredBoats();
        retiringNoBoat();
        retiringWithoutAPreparedRace();
        closingFromTheStartOn();
        closingWithoutAPreparedRace();
        closingCountsFinishedBoats();
        closingLeavesTheBoats();
        due.end();
    }

    /** All five are ready 30 seconds after the start: 0 waits, 1 is early, 2 sails, 3 is finished, 4 retired. */
    private static Story fiveKinds() {
        return Story.fleet(100, 100, 100, 100, 100).and(x -> x.prepare(1, 1, 60)).and(x -> x.line(1)).passed(60)
                .and(x -> x.line(2)).and(x -> x.line(3)).and(x -> x.line(4)).passed(30)
                .and(x -> Scene.finish(x, 3)).and(x -> x.retire(4));
    }

    private static Story prepared() {
        return Story.fleet(100, 100).and(x -> x.prepare(1, 1, 60));
    }

    // ---- Promise 7

    /** "a waiting boat becomes early if the clock is before the start, and otherwise sailing". */
    private static void aWaitingBoatCrosses() {
        int[] clock = {0, 1, 58, 59, 60, 61, 9999};
        int[] kind = {1, 1, 1, 1, 2, 2, 2};
        for (int i = 0; i < clock.length; i++) {
            Story s = prepared().passed(clock[i]);
            due.is("7: waiting, at " + clock[i], s, x -> x.line(0), kind[i]);
            due.is("7: so it is", s.and(x -> x.line(0)), x -> x.result(0, 0, 0), kind[i]);
            due.is("7: the other one is not touched", s.and(x -> x.line(0)), x -> x.result(0, 1, 0), 0);
        }
        due.is("7: before a start that was put off", prepared().and(x -> x.postpone(1)).passed(60),
                x -> x.line(0), 1);
    }

    /** "an early boat becomes waiting if the clock is before the start, and otherwise sailing". */
    private static void anEarlyBoatCrosses() {
        int[] clock = {0, 1, 58, 59, 60, 61, 9999};
        int[] kind = {0, 0, 0, 0, 2, 2, 2};
        for (int i = 0; i < clock.length; i++) {
            Story s = prepared().and(x -> x.line(0)).passed(clock[i]);
            due.is("7: early, at " + clock[i], s, x -> x.line(0), kind[i]);
            due.is("7: so it is", s.and(x -> x.line(0)), x -> x.result(0, 0, 0), kind[i]);
        }
        Story again = prepared().and(x -> x.line(0)).and(x -> x.line(0));
        due.is("7: waiting again, it becomes early", again, x -> x.line(0), 1);
        due.is("7: waiting again, it sails", again.passed(60), x -> x.line(0), 2);
    }

    /** Sails all roundings of a race, less so many. */
    private static Story rounded(int buoys, int laps, int less) {
        return Story.fleet(100, 100).and(x -> x.prepare(buoys, laps, 60)).passed(60).and(x -> x.line(0)).and(x -> {
            for (int rounding = 0; rounding < buoys * laps - less; rounding++) {
                x.buoy(0, rounding % buoys);
            }
        }).passed(9);
    }

    /** "a sailing boat that has made all roundings is finished, with the clock as its finish". */
    private static void aSailingBoatCrossesWithAllRoundings() {
        for (int b = 1; b <= 5; b++) {
            for (int laps = 1; laps <= 3; laps++) {
                Story s = rounded(b, laps, 0);
                due.is("7: all " + b + " buoys, " + laps + " laps", s, x -> x.line(0), 3);
                due.is("7: its finish less the start", s.and(x -> x.line(0)), x -> x.result(0, 0, 5), 9);
            }
        }
        Story mistaken = rounded(2, 1, 0).and(x -> x.buoy(0, 0)).and(x -> x.buoy(0, 1));
        due.is("7: mistakes don't matter", mistaken, x -> x.line(0), 3);
    }

    /** "and not for a sailing boat with roundings that are missing". */
    private static void aSailingBoatCrossesWithRoundingsMissing() {
        for (int b = 1; b <= 5; b++) {
            for (int laps = 1; laps <= 3; laps++) {
                due.unchanged("7: one of " + b + " buoys, " + laps + " laps is missing", rounded(b, laps, 1),
                        x -> x.line(0), RegattaTimes.NOT_POSSIBLE);
                due.unchanged("7: all are missing", rounded(b, laps, b * laps), x -> x.line(0),
                        RegattaTimes.NOT_POSSIBLE);
            }
        }
        Story mistaken = rounded(2, 1, 1).and(x -> x.buoy(0, 0)).and(x -> x.buoy(0, 0));
        due.unchanged("7: mistakes are no roundings", mistaken, x -> x.line(0), RegattaTimes.NOT_POSSIBLE);
    }

    /** "this is not possible for the other boats". */
    private static void aFinishedBoatCrosses() {
        Story s = fiveKinds();
        due.unchanged("7: finished", s, x -> x.line(3), RegattaTimes.NOT_POSSIBLE);
        due.unchanged("7: finished for long", s.passed(500), x -> x.line(3), RegattaTimes.NOT_POSSIBLE);
    }

    private static void aRetiredBoatCrosses() {
        due.unchanged("7: retired", fiveKinds(), x -> x.line(4), RegattaTimes.NOT_POSSIBLE);
        Story before = prepared().and(x -> x.retire(0));
        due.unchanged("7: retired, before the start", before, x -> x.line(0), RegattaTimes.NOT_POSSIBLE);
        due.unchanged("7: retired, at the start", before.passed(60), x -> x.line(0), RegattaTimes.NOT_POSSIBLE);
        Story rounded = rounded(1, 1, 0).and(x -> x.retire(0));
        due.unchanged("7: retired with all roundings", rounded, x -> x.line(0), RegattaTimes.NOT_POSSIBLE);
    }

    /** "NO_SUCH if there is no such boat". */
    private static void crossingByNoBoat() {
        Story two = prepared();
        for (int boat : Scene.outside(0, 1)) {
            due.unchanged("7: line(" + boat + ") of two boats", two, x -> x.line(boat), RegattaTimes.NO_SUCH);
        }
        Story nine = Story.fleet(Scene.NINE).and(x -> x.prepare(1, 1, 60));
        due.is("7: the last of nine", nine, x -> x.line(8), 1);
        due.unchanged("7: a tenth", nine, x -> x.line(9), RegattaTimes.NO_SUCH);
        due.unchanged("7: no boat at all", new Story(), x -> x.line(0), RegattaTimes.NO_SUCH);
    }

    /** "NOT_POSSIBLE if no race is prepared". */
    private static void crossingWithoutAPreparedRace() {
        due.unchanged("7: no race", Story.fleet(100), x -> x.line(0), RegattaTimes.NOT_POSSIBLE);
        Story closed = fiveKinds().and(x -> x.buoy(2, 0)).and(x -> x.close());
        for (int b = 0; b < 5; b++) {
            int boat = b;
            due.unchanged("7: closed, boat " + boat, closed, x -> x.line(boat), RegattaTimes.NOT_POSSIBLE);
        }
    }

    /** "with the clock as its finish": from the start itself up to the last second. */
    private static void theFinishIsTheClock() {
        Story s = rounded(1, 1, 1);
        Story atTheStart = Story.sailing(100).and(x -> Scene.finish(x, 0));
        due.is("7: at the start", atTheStart, x -> x.result(0, 0, 5), 0);
        due.is("7: it stays when time passes", atTheStart.passed(99), x -> x.result(0, 0, 5), 0);
        Story late = s.passed(999930).and(x -> Scene.finish(x, 0));
        due.is("7: the clock", late, x -> x.count(3), 999999);
        due.is("7: in the last second", late, x -> x.result(0, 0, 5), 999939);
    }

    // ---- Promise 8

    /** "The roundings of a race are the buoys 0, 1 and so on up to the last one, lap by lap." */
    private static void roundingsLapByLap() {
        for (int b = 1; b <= 5; b++) {
            for (int laps = 1; laps <= 3; laps++) {
                int buoys = b;
                RegattaTimes x = rounded(buoys, laps, buoys * laps).told();
                for (int made = 1; made <= buoys * laps; made++) {
                    due.is("8: rounding " + made + " of " + buoys + " buoys", x.buoy(0, (made - 1) % buoys), made);
                    due.is("8: its roundings", x.result(0, 0, 1), made);
                }
                due.is("8: without a mistake", x.result(0, 0, 2), 0);
                due.is("8: it still sails", x.result(0, 0, 0), 2);
                due.is("8: the other boat has none", x.result(0, 1, 1), 0);
            }
        }
        Story firstLap = rounded(3, 2, 3);
        due.is("8: after the last buoy the first one", firstLap, x -> x.buoy(0, 0), 4);
        due.is("8: not the last one again", firstLap, x -> x.buoy(0, 2), 3);
        due.is("8: not the second one", firstLap, x -> x.buoy(0, 1), 3);
    }

    /** "otherwise .. it is a mistake, which is counted, and nothing else". */
    private static void wrongBuoysAreMistakes() {
        for (int b = 1; b <= 5; b++) {
            for (int m = 0; m < 2 * b; m++) {
                int buoys = b;
                int made = m;
                Story s = rounded(buoys, 2, 2 * buoys - made);
                for (int at = 0; at < buoys; at++) {
                    int buoy = at;
                    boolean isNext = buoy == made % buoys;
                    due.is("8: " + made + " made, buoy " + buoy, s, x -> x.buoy(0, buoy), isNext ? made + 1 : made);
                    Story then = s.and(x -> x.buoy(0, buoy));
                    due.is("8: mistakes then", then, x -> x.result(0, 0, 2), isNext ? 0 : 1);
                    due.is("8: roundings then", then, x -> x.result(0, 0, 1), isNext ? made + 1 : made);
                    due.is("8: nothing else", then, x -> x.result(0, 0, 0), 2);
                    due.is("8: no penalty", then, x -> x.result(0, 0, 3), 0);
                }
            }
        }
    }

    /** "(also if it has made all of them)". */
    private static void buoysAfterAllRoundingsAreMistakes() {
        for (int b = 1; b <= 5; b++) {
            for (int l = 1; l <= 3; l++) {
                int all = b * l;
                RegattaTimes x = rounded(b, l, 0).told();
                for (int buoy = 0; buoy < b; buoy++) {
                    due.is("8: all " + all + " made, buoy " + buoy, x.buoy(0, buoy), all);
                    due.is("8: a mistake", x.result(0, 0, 2), buoy + 1);
                    due.is("8: no rounding", x.result(0, 0, 1), all);
                }
                due.is("8: it can still finish", x.line(0), 3);
            }
        }
    }

    /** "BAD_VALUE if buoy is not a buoy of the race". */
    private static void buoysOfTheRace() {
        for (int b = 1; b <= 5; b++) {
            int buoys = b;
            Story s = rounded(buoys, 1, buoys);
            due.is("8: the last of " + buoys + " buoys", s, x -> x.buoy(0, buoys - 1), buoys == 1 ? 1 : 0);
            for (int buoy : Scene.outside(0, buoys - 1)) {
                due.unchanged("8: buoy " + buoy + " of " + buoys, s, x -> x.buoy(0, buoy), RegattaTimes.BAD_VALUE);
            }
        }
        Story next = rounded(5, 1, 0).and(x -> x.close()).and(x -> x.prepare(2, 1, 60)).passed(60)
                .and(x -> x.line(0));
        due.is("8: a buoy of this race", next, x -> x.buoy(0, 1), 0);
        due.unchanged("8: a buoy of the race before", next, x -> x.buoy(0, 2), RegattaTimes.BAD_VALUE);
    }

    /** "(also if no race is prepared)". */
    private static void buoysWithoutAPreparedRace() {
        due.unchanged("8: no race", Story.fleet(100), x -> x.buoy(0, 0), RegattaTimes.BAD_VALUE);
        Story closed = fiveKinds().and(x -> x.close());
        for (int b = 0; b < 5; b++) {
            int boat = b;
            due.unchanged("8: closed, boat " + boat, closed, x -> x.buoy(boat, 0), RegattaTimes.BAD_VALUE);
        }
    }

    /** "NOT_POSSIBLE if the boat is not sailing". */
    private static void passedByABoatThatDoesNotSail() {
        Story s = fiveKinds();
        due.unchanged("8: waiting", s, x -> x.buoy(0, 0), RegattaTimes.NOT_POSSIBLE);
        due.unchanged("8: early", s, x -> x.buoy(1, 0), RegattaTimes.NOT_POSSIBLE);
        due.is("8: sailing", s, x -> x.buoy(2, 0), 1);
        due.unchanged("8: finished", s, x -> x.buoy(3, 0), RegattaTimes.NOT_POSSIBLE);
        due.unchanged("8: retired", s, x -> x.buoy(4, 0), RegattaTimes.NOT_POSSIBLE);
        due.unchanged("8: before the start", prepared(), x -> x.buoy(0, 0), RegattaTimes.NOT_POSSIBLE);
    }

    /** "NO_SUCH if there is no such boat". */
    private static void passedByNoBoat() {
        Story s = Story.sailing(100, 100);
        for (int boat : Scene.outside(0, 1)) {
            due.unchanged("8: buoy(" + boat + ", 0)", s, x -> x.buoy(boat, 0), RegattaTimes.NO_SUCH);
        }
        due.is("8: the last boat", s, x -> x.buoy(1, 0), 1);
        due.unchanged("8: no boat at all", new Story(), x -> x.buoy(0, 0), RegattaTimes.NO_SUCH);
    }

    // ---- Promise 9

    /** "Returns what it was (0 to 2)". */
    private static void retiringBoats() {
        Story s = fiveKinds();
        for (int b = 0; b <= 2; b++) {
            int boat = b;
            due.is("9: it was " + boat, s, x -> x.retire(boat), boat);
            due.is("9: it is retired", s.and(x -> x.retire(boat)), x -> x.result(0, boat, 0), 4);
        }
        due.is("9: long before the start", prepared(), x -> x.retire(1), 0);
        Story rounded = rounded(2, 1, 1).and(x -> x.buoy(0, 0)).and(x -> x.retire(0));
        due.is("9: its roundings stay", rounded, x -> x.result(0, 0, 1), 1);
        due.is("9: its mistakes stay", rounded, x -> x.result(0, 0, 2), 1);
    }

    /** "NOT_POSSIBLE if .. the boat is finished or retired". */
    private static void retiringFinishedOrRetiredBoats() {
        Story s = fiveKinds();
        due.unchanged("9: finished", s, x -> x.retire(3), RegattaTimes.NOT_POSSIBLE);
        due.unchanged("9: retired", s, x -> x.retire(4), RegattaTimes.NOT_POSSIBLE);
        due.unchanged("9: retired before the start", prepared().and(x -> x.retire(0)), x -> x.retire(0),
                RegattaTimes.NOT_POSSIBLE);
    }

    /** "NO_SUCH if there is no such boat". */
    private static void retiringNoBoat() {
        Story s = prepared();
        for (int boat : Scene.outside(0, 1)) {
            due.unchanged("9: retire(" + boat + ")", s, x -> x.retire(boat), RegattaTimes.NO_SUCH);
        }
        due.unchanged("9: no boat at all", new Story(), x -> x.retire(0), RegattaTimes.NO_SUCH);
    }

    /** "NOT_POSSIBLE if no race is prepared". */
    private static void retiringWithoutAPreparedRace() {
        due.unchanged("9: no race", Story.fleet(100), x -> x.retire(0), RegattaTimes.NOT_POSSIBLE);
        Story closed = fiveKinds().and(x -> x.close());
        for (int b = 0; b < 5; b++) {
            int boat = b;
            due.unchanged("9: closed, boat " + boat, closed, x -> x.retire(boat), RegattaTimes.NOT_POSSIBLE);
        }
    }

    // ---- Promise 10

    /** "NOT_POSSIBLE if .. the clock is before the start". */
    private static void closingFromTheStartOn() {
        due.unchanged("10: at once", prepared(), x -> x.close(), RegattaTimes.NOT_POSSIBLE);
        due.unchanged("10: a second before the start", prepared().passed(59), x -> x.close(),
                RegattaTimes.NOT_POSSIBLE);
        due.is("10: at the start", prepared().passed(60), x -> x.close(), 0);
        due.is("10: long after it", prepared().passed(9999), x -> x.close(), 0);
        Story put = prepared().and(x -> x.postpone(1));
        due.unchanged("10: before the start that was put off", put.passed(60), x -> x.close(),
                RegattaTimes.NOT_POSSIBLE);
        due.is("10: at that start", put.passed(61), x -> x.close(), 0);
        due.unchanged("10: recalled", prepared().passed(60).and(x -> x.recall()), x -> x.close(),
                RegattaTimes.NOT_POSSIBLE);
    }

    /** "NOT_POSSIBLE if no race is prepared". */
    private static void closingWithoutAPreparedRace() {
        due.unchanged("10: no boat", new Story(), x -> x.close(), RegattaTimes.NOT_POSSIBLE);
        due.unchanged("10: no race", Story.fleet(100), x -> x.close(), RegattaTimes.NOT_POSSIBLE);
        due.unchanged("10: closed", fiveKinds().and(x -> x.close()), x -> x.close(), RegattaTimes.NOT_POSSIBLE);
    }

    /** "Returns the number of finished boats": none of them up to all of them, disqualified or not. */
    private static void closingCountsFinishedBoats() {
        for (int f = 0; f <= 9; f++) {
            int finished = f;
            Story s = Story.sailing(Scene.NINE).and(x -> {
                for (int boat = 0; boat < finished; boat++) {
                    Scene.finish(x, boat);
                }
            });
            due.is("10: finished boats", s, x -> x.close(), finished);
        }
        Story hailed = Story.sailing(100, 100).and(x -> x.hail(0, 1)).and(x -> Scene.finish(x, 0))
                .and(x -> Scene.finish(x, 1)).and(x -> x.file(0)).and(x -> x.decide(0, true));
        due.is("10: one of them is disqualified", hailed, x -> x.close(), 2);
        due.is("10: one of each kind", fiveKinds(), x -> x.close(), 1);
    }

    private static void closingLeavesTheBoats() {
        Story closed = fiveKinds().and(x -> x.close());
        for (int b = 0; b < 5; b++) {
            int boat = b;
            due.is("10: boat " + boat, closed, x -> x.result(0, boat, 0), boat);
        }
        due.is("10: the race", closed, x -> x.race(0, 3), 2);
        due.is("10: the state", closed, x -> x.count(4), 2);
        due.is("10: the clock", closed, x -> x.count(3), 90);
    }
}
