/** The boundaries that promises 29 to 32 name: placeNow, secondsLeft, rankIfDisqualified, mean. */
public final class WhatWouldBeEdgesTest {
    private static final Due due = new Due();
    private static final int OUT = Scene.UNFINISHED, DSQ = Scene.DISQUALIFIED;

    public static void main(String[] args) {
        placeOfNoBoat();
        placeWithoutAPreparedRace();
        placeOfEachKind();
        placeFromTheFirstToTheNinth();
        placeOfTheDisqualified();
        secondsOfNoBoat();
        secondsWithoutAPreparedRace();
        secondsOfEachKind();
        secondsWhenNoneHasFinished();
        secondsUpToTooLate();
        secondsUnderATimeOfZero();
        secondsUnderAllFinishedBoats();
        secondsWithPenalties();
        secondsWithRoundingsMissing();
        rankOfNoBoatOrRace();
        rankInARaceThatIsNotClosed();
        rankFromTheFirstToTheNinth();
        rankOfTheDisqualified();
        rankWithARaceLeftOut();
        rankWithTheLastRace();
        rankWhenOthersGetBetterPlaces();
        meanOfNoBoat();
        meanWithoutClosedRaces();
        meanOfOneToSixRaces();
        due.end();
    }

    /** Boat 0 waits, 1 is early, 2 sails, 3 and 5 are finished, 4 is retired; protests of 3 against 5 and 2. */
    private static Story kinds() {
        return Story.fleet(100, 100, 100, 100, 100, 100).and(x -> x.prepare(1, 1, 60)).and(x -> x.line(1))
                .passed(60).and(x -> {
                    for (int boat = 2; boat < 6; boat++) {
                        x.line(boat);
                    }
                    x.hail(3, 5);
                    x.hail(3, 2);
                    x.pass(10);
                    Scene.finish(x, 3);
                    Scene.finish(x, 5);
                    x.retire(4);
                    x.file(0);
                    x.file(1);
                });
    }

    private static Story sailed(Story s, int... seconds) {
        return s.and(x -> Scene.sailResults(x, seconds));
    }

    // ---- Promise 29

    /** "NO_SUCH if there is no such boat". */
    private static void placeOfNoBoat() {
        Story s = kinds();
        for (int boat : Scene.outside(0, 5)) {
            due.unchanged("29: placeNow(" + boat + ")", s, x -> x.placeNow(boat), RegattaTimes.NO_SUCH);
        }
        due.unchanged("29: no boat at all", new Story(), x -> x.placeNow(0), RegattaTimes.NO_SUCH);
        due.unchanged("29: the last boat", s, x -> x.placeNow(5), 1);
    }

    /** "NOT_POSSIBLE if no race is prepared". */
    private static void placeWithoutAPreparedRace() {
        due.unchanged("29: no race", Story.fleet(100), x -> x.placeNow(0), RegattaTimes.NOT_POSSIBLE);
        Story closed = kinds().and(x -> x.close());
        for (int b = 0; b < 6; b++) {
            int boat = b;
            due.unchanged("29: closed", closed, x -> x.placeNow(boat), RegattaTimes.NOT_POSSIBLE);
        }
    }

    /** "NONE if it is not finished". */
    private static void placeOfEachKind() {
        int[] want = {RegattaTimes.NONE, RegattaTimes.NONE, RegattaTimes.NONE, 1, RegattaTimes.NONE, 1};
        Story s = kinds();
        for (int b = 0; b < 6; b++) {
            int boat = b;
            due.unchanged("29: placeNow(" + boat + ")", s, x -> x.placeNow(boat), want[boat]);
            due.is("29: the place that it has then", s.and(x -> x.close()), x -> x.result(0, boat, 7), want[boat]);
        }
        due.unchanged("29: all roundings", s.and(x -> x.buoy(2, 0)), x -> x.placeNow(2), RegattaTimes.NONE);
        due.unchanged("29: before the start", Story.fleet(100).and(x -> x.prepare(1, 1, 60)), x -> x.placeNow(0),
                RegattaTimes.NONE);
        due.unchanged("29: the next race", s.and(x -> x.close()).and(x -> x.prepare(1, 1, 60)), x -> x.placeNow(3),
                RegattaTimes.NONE);
    }

    private static void placeFromTheFirstToTheNinth() {
        Story s = Story.sailing(Scene.NINE);
        for (int b = 8; b >= 0; b--) {
            int boat = b;
            s = s.and(x -> Scene.finish(x, boat)).passed(1);
            due.unchanged("29: the latest of so many", s, x -> x.placeNow(boat), 9 - boat);
            due.unchanged("29: the first one", s, x -> x.placeNow(8), 1);
        }
        Story same = Story.sailing(Scene.NINE).and(x -> {
            for (int boat = 0; boat < 9; boat++) {
                Scene.finish(x, boat);
            }
        });
        due.unchanged("29: all nine are first", same, x -> x.placeNow(8), 1);
    }

    /** "or disqualified". */
    private static void placeOfTheDisqualified() {
        Story s = kinds().and(x -> x.accept(1)).and(x -> Scene.finish(x, 2));
        due.unchanged("29: with a penalty", s, x -> x.placeNow(2), 3);
        Story upheld = s.and(x -> x.decide(0, true));
        due.unchanged("29: disqualified", upheld, x -> x.placeNow(5), RegattaTimes.NONE);
        due.unchanged("29: another one gets better", upheld, x -> x.placeNow(2), 2);
        due.unchanged("29: dismissed", s.and(x -> x.decide(0, false)), x -> x.placeNow(5), 1);
    }

    // ---- Promise 30

    /** "NO_SUCH if there is no such boat". */
    private static void secondsOfNoBoat() {
        Story s = kinds();
        for (int boat : Scene.outside(0, 5)) {
            due.unchanged("30: secondsLeft(" + boat + ")", s, x -> x.secondsLeft(boat), RegattaTimes.NO_SUCH);
        }
        due.unchanged("30: no boat at all", new Story(), x -> x.secondsLeft(0), RegattaTimes.NO_SUCH);
    }

    /** "NOT_POSSIBLE if no race is prepared". */
    private static void secondsWithoutAPreparedRace() {
        due.unchanged("30: no race", Story.fleet(100), x -> x.secondsLeft(0), RegattaTimes.NOT_POSSIBLE);
        due.unchanged("30: closed", kinds().and(x -> x.close()), x -> x.secondsLeft(2), RegattaTimes.NOT_POSSIBLE);
    }

    /** "or the boat is not sailing". */
    private static void secondsOfEachKind() {
        Story s = kinds();
        due.unchanged("30: waiting", s, x -> x.secondsLeft(0), RegattaTimes.NOT_POSSIBLE);
        due.unchanged("30: early", s, x -> x.secondsLeft(1), RegattaTimes.NOT_POSSIBLE);
        due.unchanged("30: sailing", s, x -> x.secondsLeft(2), RegattaTimes.NONE);
        due.unchanged("30: finished", s, x -> x.secondsLeft(3), RegattaTimes.NOT_POSSIBLE);
        due.unchanged("30: retired", s, x -> x.secondsLeft(4), RegattaTimes.NOT_POSSIBLE);
        due.unchanged("30: finished, the first one", Story.sailing(100).and(x -> Scene.finish(x, 0)),
                x -> x.secondsLeft(0), RegattaTimes.NOT_POSSIBLE);
    }

    /** "NONE if .. no such boat has finished": none, or only such as are disqualified. */
    private static void secondsWhenNoneHasFinished() {
        Story s = Story.sailing(100, 100, 100).and(x -> x.hail(1, 2)).and(x -> x.hail(2, 1));
        due.unchanged("30: none has finished", s, x -> x.secondsLeft(0), RegattaTimes.NONE);
        due.unchanged("30: one is retired", s.and(x -> x.retire(1)), x -> x.secondsLeft(0), RegattaTimes.NONE);
        Story high = Story.sailing(150, 100, 100).and(x -> x.hail(1, 2)).and(x -> x.hail(2, 1)).passed(50)
                .and(x -> Scene.finish(x, 1)).and(x -> Scene.finish(x, 2)).and(x -> x.file(0)).and(x -> x.file(1));
        due.unchanged("30: both have finished", high, x -> x.secondsLeft(0), 24);
        due.unchanged("30: one of both is disqualified", high.and(x -> x.decide(0, true)), x -> x.secondsLeft(0), 24);
        due.unchanged("30: both are disqualified", high.and(x -> x.decide(0, true)).and(x -> x.decide(1, true)),
                x -> x.secondsLeft(0), RegattaTimes.NONE);
    }

    /** What the words say, tried second by second: the boat 1 finishes with 100 times its time by its rating. */
    private static int tried(int least, int elapsed, int rating) {
        int seconds = RegattaTimes.NONE;
        for (int more = 0; 100 * (elapsed + more) / rating < least; more++) {
            seconds = more;
        }
        return seconds;
    }

    /** "the greatest number of seconds from now, 0 or more"; "NONE if it is too late". */
    private static void secondsUpToTooLate() {
        for (int rating : new int[] {101, 102, 110, 125, 133, 149, 150}) {
            for (int least : new int[] {1, 2, 9, 50, 99, 100, 101}) {
                Story s = Story.sailing(100, rating).passed(least).and(x -> Scene.finish(x, 0));
                int left = tried(least, least, rating);
                due.unchanged("30: rating " + rating + " under " + least, s, x -> x.secondsLeft(1), left);
                if (left != RegattaTimes.NONE) {
                    due.unchanged("30: in the last second", s.passed(left), x -> x.secondsLeft(1), 0);
                    due.unchanged("30: a second later", s.passed(left + 1), x -> x.secondsLeft(1),
                            RegattaTimes.NONE);
                    Story finished = s.and(x -> x.buoy(1, 0)).passed(left).and(x -> x.line(1));
                    due.holds("30: then it has less", finished.answer(x -> x.result(0, 1, 6)) < least);
                    Story late = s.and(x -> x.buoy(1, 0)).passed(left + 1).and(x -> x.line(1));
                    due.holds("30: later it has not", late.answer(x -> x.result(0, 1, 6)) >= least);
                }
            }
        }
        Story s = Story.sailing(100, 150).passed(100).and(x -> Scene.finish(x, 0));
        due.unchanged("30: 14999 hundredths is less than 150 times 100", s, x -> x.secondsLeft(1), 49);
        due.unchanged("30: 49 seconds later", s.passed(49), x -> x.secondsLeft(1), 0);
        due.unchanged("30: 50 seconds later", s.passed(50), x -> x.secondsLeft(1), RegattaTimes.NONE);
    }

    /** None is less than a corrected time of 0. */
    private static void secondsUnderATimeOfZero() {
        Story zero = Story.sailing(100, 150).and(x -> Scene.finish(x, 0));
        due.unchanged("30: under 0 seconds", zero, x -> x.secondsLeft(1), RegattaTimes.NONE);
        Story rounded = Story.sailing(150, 150).passed(1).and(x -> Scene.finish(x, 0));
        due.unchanged("30: under 66 hundredths", rounded, x -> x.secondsLeft(1), RegattaTimes.NONE);
        Story one = Story.sailing(100, 150).passed(1).and(x -> Scene.finish(x, 0));
        due.unchanged("30: under 1 second", one, x -> x.secondsLeft(1), 0);
        due.unchanged("30: under 1 second, a second later", one.passed(1), x -> x.secondsLeft(1), RegattaTimes.NONE);
    }

    /** "less than that of all finished boats that are not disqualified". */
    private static void secondsUnderAllFinishedBoats() {
        Story s = Story.sailing(100, 100, 100, 150).and(x -> x.hail(1, 0)).passed(40)
                .and(x -> Scene.finish(x, 0)).passed(2).and(x -> Scene.finish(x, 1)).and(x -> Scene.finish(x, 2));
        due.unchanged("30: under 40 and 42", s, x -> x.secondsLeft(3), 17);
        Story upheld = s.and(x -> x.file(0)).and(x -> x.decide(0, true));
        due.unchanged("30: under 42 alone", upheld, x -> x.secondsLeft(3), 20);
        due.unchanged("30: with a penalty under 42", s.and(x -> x.accept(0)), x -> x.secondsLeft(3), 20);
        due.unchanged("30: dismissed", s.and(x -> x.file(0)).and(x -> x.decide(0, false)), x -> x.secondsLeft(3), 17);
    }

    private static void secondsWithPenalties() {
        Story s = Story.sailing(100, 150).and(x -> x.hail(0, 1)).passed(100).and(x -> Scene.finish(x, 0));
        for (int p : new int[] {48, 49, 50, 300}) {
            int penalty = p;
            Story accepted = s.and(x -> x.set(RegattaTimes.PENALTY, penalty)).and(x -> x.accept(0));
            due.unchanged("30: with a penalty of " + penalty, accepted, x -> x.secondsLeft(1),
                    penalty <= 49 ? 49 - penalty : RegattaTimes.NONE);
        }
    }

    /** "(roundings that are missing do not matter)". */
    private static void secondsWithRoundingsMissing() {
        Story s = Story.fleet(100, 150).and(x -> x.prepare(1, 3, 60)).passed(60).and(x -> x.line(0))
                .and(x -> x.line(1)).passed(100).and(x -> {
                    for (int lap = 0; lap < 3; lap++) {
                        x.buoy(0, 0);
                    }
                    x.line(0);
                });
        for (int made = 0; made <= 4; made++) {
            due.unchanged("30: with " + made + " roundings or mistakes", s, x -> x.secondsLeft(1), 49);
            s = s.and(x -> x.buoy(1, 0));
        }
    }

    // ---- Promise 31

    /** "NO_SUCH if there is no such boat or race". */
    private static void rankOfNoBoatOrRace() {
        Story s = sailed(sailed(Story.fleet(100, 100), 1, 2), 1, 2);
        for (int wrong : Scene.outside(0, 1)) {
            due.unchanged("31: boat " + wrong, s, x -> x.rankIfDisqualified(wrong, 0), RegattaTimes.NO_SUCH);
            due.unchanged("31: race " + wrong, s, x -> x.rankIfDisqualified(0, wrong), RegattaTimes.NO_SUCH);
        }
        due.unchanged("31: the last boat and race", s, x -> x.rankIfDisqualified(1, 1), 2);
        due.unchanged("31: no race", Story.fleet(100), x -> x.rankIfDisqualified(0, 0), RegattaTimes.NO_SUCH);
        due.unchanged("31: no boat at all", new Story(), x -> x.rankIfDisqualified(0, 0), RegattaTimes.NO_SUCH);
    }

    /** "NOT_POSSIBLE if the race is not closed". */
    private static void rankInARaceThatIsNotClosed() {
        Story prepared = Story.fleet(100, 100).and(x -> x.prepare(1, 1, 60));
        due.unchanged("31: prepared", prepared, x -> x.rankIfDisqualified(0, 0), RegattaTimes.NOT_POSSIBLE);
        Story closed = prepared.passed(60).and(x -> x.close());
        due.unchanged("31: closed", closed, x -> x.rankIfDisqualified(0, 0), 2);
        Story next = closed.and(x -> x.prepare(1, 1, 60));
        due.unchanged("31: the next one", next, x -> x.rankIfDisqualified(0, 1), RegattaTimes.NOT_POSSIBLE);
        due.unchanged("31: the one before it", next, x -> x.rankIfDisqualified(0, 0), 2);
    }

    private static void rankFromTheFirstToTheNinth() {
        Story s = sailed(Story.fleet(Scene.NINE), 1, 2, 3, 4, 5, 6, 7, 8, 9);
        for (int b = 0; b < 9; b++) {
            int boat = b;
            due.unchanged("31: in the only race, boat " + boat, s, x -> x.rankIfDisqualified(boat, 0), 9);
        }
        due.unchanged("31: the only boat", sailed(Story.fleet(100), 1), x -> x.rankIfDisqualified(0, 0), 1);
        Story ahead = sailed(Story.fleet(100, 100), 1, OUT);
        for (int race = 1; race < 6; race++) {
            ahead = sailed(ahead, 1, OUT);
        }
        due.unchanged("31: still the first one", ahead.and(x -> x.set(RegattaTimes.DISCARD, 0)),
                x -> x.rankIfDisqualified(0, 5), 1);
    }

    private static void rankOfTheDisqualified() {
        Story s = sailed(Story.fleet(100, 100, 100), 1, DSQ, OUT);
        due.unchanged("31: as it is", s, x -> x.boat(1, 2), 3);
        due.unchanged("31: disqualified already", s, x -> x.rankIfDisqualified(1, 0), 3);
        due.unchanged("31: both disqualified, by number", s, x -> x.rankIfDisqualified(2, 0), 3);
        due.unchanged("31: the first one too, by number", s, x -> x.rankIfDisqualified(0, 0), 2);
    }

    private static void rankWithARaceLeftOut() {
        Story s = sailed(sailed(Story.fleet(100, 100), 1, 2), 1, 2);
        due.unchanged("31: 1 and 4 against 1 and 2", s, x -> x.rankIfDisqualified(0, 1), 2);
        Story leftOut = s.and(x -> x.set(RegattaTimes.DISCARD, 2));
        due.unchanged("31: the 4 is left out, but 1 has a place 1 and a place 2", leftOut,
                x -> x.rankIfDisqualified(0, 1), 2);
        Story first = sailed(sailed(Story.fleet(100, 100), 1, 2), 1, OUT).and(x -> x.set(RegattaTimes.DISCARD, 2));
        due.unchanged("31: 1 against 1, and less in the last race", first, x -> x.rankIfDisqualified(0, 0), 1);
        due.unchanged("31: the 4 is not left out, 5 against 4", first.and(x -> x.set(RegattaTimes.DISCARD, 3)),
                x -> x.rankIfDisqualified(0, 0), 2);
    }

    private static void rankWithTheLastRace() {
        Story s = sailed(sailed(Story.fleet(100, 100), 1, 2), 1, OUT).and(x -> x.set(RegattaTimes.DISCARD, 2));
        due.unchanged("31: in the last race", s, x -> x.rankIfDisqualified(0, 1), 1);
        due.unchanged("31: in the first race", s, x -> x.rankIfDisqualified(0, 0), 1);
        due.unchanged("31: the other one", s, x -> x.rankIfDisqualified(1, 0), 2);
        Story last = sailed(sailed(Story.fleet(100, 100), 1, OUT), 1, 2).and(x -> x.set(RegattaTimes.DISCARD, 2));
        due.unchanged("31: 4 against 1 in the last race", last, x -> x.rankIfDisqualified(0, 1), 2);
    }

    /** "(so others can have better places there)". */
    private static void rankWhenOthersGetBetterPlaces() {
        Story s = sailed(sailed(Story.fleet(100, 100), 1, 2), 1, OUT);
        // 0 would have 5 with a place 1; 1 would have as many but for the place 1 that it gets.
        due.unchanged("31: 5 against 4", s, x -> x.rankIfDisqualified(0, 0), 2);
        Story leftOut = sailed(sailed(sailed(sailed(Story.fleet(100, 100), 1, 2), 1, 2), 1, 2), 2, 1);
        // With one race less, 0 would have 4; 1 has 5, but 4 with the place 1 that it gets, and more places 2.
        due.unchanged("31: 4 against 4", leftOut, x -> x.rankIfDisqualified(0, 0), 2);
        due.unchanged("31: the total of 1 is still 5", leftOut, x -> x.boat(1, 1), 5);
    }

    // ---- Promise 32

    /** "0.0f .. if there is no such boat". */
    private static void meanOfNoBoat() {
        Story s = sailed(Story.fleet(100, 100), 1, 2);
        for (int boat : Scene.outside(0, 1)) {
            due.unchanged("32: mean(" + boat + ")", s, x -> x.mean(boat), 0.0f);
        }
        due.unchanged("32: no boat at all", new Story(), x -> x.mean(0), 0.0f);
        due.unchanged("32: the last boat", s, x -> x.mean(1), 2.0f);
    }

    /** "0.0f without closed races". */
    private static void meanWithoutClosedRaces() {
        due.unchanged("32: no race", Story.fleet(100), x -> x.mean(0), 0.0f);
        Story prepared = Story.sailing(100, 100).and(x -> Scene.finish(x, 0));
        due.unchanged("32: a prepared one", prepared, x -> x.mean(0), 0.0f);
        due.unchanged("32: it is closed", prepared.and(x -> x.close()), x -> x.mean(0), 1.0f);
    }

    /** "the sum of its points in all closed races, as a float, divided by their number". */
    private static void meanOfOneToSixRaces() {
        int[][] seconds = {{1, 2}, {2, 1}, {DSQ, 1}, {OUT, 1}, {1, OUT}, {2, 1}};
        int[] points = {1, 2, 4, 3, 1, 2};
        Story s = Story.fleet(100, 100).and(x -> x.set(RegattaTimes.DISCARD, 1));
        int sum = 0;
        for (int races = 1; races <= 6; races++) {
            s = sailed(s, seconds[races - 1]);
            sum += points[races - 1];
            due.unchanged("32: of " + races + " races, none left out", s, x -> x.mean(0), (float) sum / races);
            if (races < 6) {
                due.unchanged("32: a prepared one does not count", s.and(x -> Scene.start(x)), x -> x.mean(0),
                        (float) sum / races);
            }
        }
    }
}
