import java.util.Arrays;

/** The boundaries that the document names for elapsed and corrected times, places, points, totals and ranks. */
public final class PointsEdgesTest {
    private static final Due due = new Due();
    private static final int OUT = Scene.UNFINISHED, DSQ = Scene.DISQUALIFIED;

    public static void main(String[] args) {
        elapsedTimes();
        correctedTimesAreRoundedDown();
        placesOfOneToNineBoats();
        sameTimesHaveTheSamePlace();
        roundingMakesSameTimes();
        disqualifiedBoatsDoNotCountForPlaces();
        pointsOfOneToNineBoats();
        pointsOfEachKind();
        totalsOfNoRaceToSix();
        discardsOfNoRaceToSix();
        ofSeveralGreatestTheLast();
        onlyOneRaceIsLeftOut();
        aheadByTotal();
        aheadByEachPlace();
        aheadByThePlaceNine();
        placesOfTheRaceLeftOutCount();
        placesOfPreparedRacesDoNotCount();
        aheadByTheLastClosedRace();
        aheadByNumber();
        due.end();
    }

    private static Story fleet(int boats) {
        int[] ratings = new int[boats];
        Arrays.fill(ratings, 100);
        return Story.fleet(ratings);
    }

    private static Story sailed(Story s, int... seconds) {
        return s.and(x -> Scene.sailResults(x, seconds));
    }

    /** "The elapsed time of a finished boat is its finish less the start, plus its penalties". */
    private static void elapsedTimes() {
        Story s = Story.fleet(100, 100).passed(5).and(x -> Scene.start(x)).and(x -> x.hail(0, 1));
        for (int after : new int[] {0, 1, 60, 9999}) {
            Story finished = s.passed(after).and(x -> Scene.finish(x, 1));
            due.is("23: " + after + " seconds after the start", finished, x -> x.result(0, 1, 5), after);
            due.is("23: with a penalty", finished.and(x -> x.accept(0)), x -> x.result(0, 1, 5), after + 60);
            due.is("23: with one before", s.and(x -> x.accept(0)).passed(after).and(x -> Scene.finish(x, 1)),
                    x -> x.result(0, 1, 5), after + 60);
        }
        Story put = Story.fleet(100).and(x -> x.prepare(1, 1, 60)).and(x -> x.postpone(40)).passed(100)
                .and(x -> x.line(0)).passed(3).and(x -> Scene.finish(x, 0));
        due.is("23: after a start that was put off", put, x -> x.result(0, 0, 5), 3);
    }

    /** "its corrected time is 100 times the elapsed time, divided by its rating (rounded down)". */
    private static void correctedTimesAreRoundedDown() {
        for (int r = 50; r <= 150; r++) {
            int rating = r;
            for (int elapsed : new int[] {0, 1, rating - 1, rating, rating + 1, 2 * rating - 1, 2 * rating, 9999}) {
                Story s = Story.sailing(rating).passed(elapsed).and(x -> Scene.finish(x, 0));
                double exact = 100.0 * elapsed / rating;
                double corrected = s.answer(x -> x.result(0, 0, 6));
                due.holds("23: " + elapsed + " seconds, rating " + rating + ": " + corrected,
                        corrected <= exact && exact < corrected + 1);
            }
        }
        Story late = Story.sailing(50).passed(999939).and(x -> Scene.finish(x, 0));
        due.is("23: the greatest one", late, x -> x.result(0, 0, 6), 1999878);
    }

    /** "1 plus the number of finished boats that are not disqualified and have a lesser corrected time". */
    private static void placesOfOneToNineBoats() {
        for (int n = 1; n <= 9; n++) {
            int[] seconds = new int[n];
            for (int boat = 0; boat < n; boat++) {
                seconds[boat] = n - boat;
            }
            Story s = sailed(fleet(n), seconds);
            for (int b = 0; b < n; b++) {
                int boat = b;
                due.is("23: place of " + n, s, x -> x.result(0, boat, 7), seconds[boat]);
                due.is("23: its points are its place", s, x -> x.result(0, boat, 8), seconds[boat]);
            }
        }
    }

    private static void places(String what, Story s, int... places) {
        for (int b = 0; b < places.length; b++) {
            int boat = b;
            due.is("23: " + what + ", place of " + boat, s, x -> x.result(0, boat, 7), places[boat]);
        }
    }

    /** "(So boats with the same corrected time have the same place.)" */
    private static void sameTimesHaveTheSamePlace() {
        places("two first ones", sailed(fleet(4), 1, 1, 2, 3), 1, 1, 3, 4);
        places("two last ones", sailed(fleet(4), 1, 2, 3, 3), 1, 2, 3, 3);
        places("two in the middle", sailed(fleet(4), 3, 2, 2, 1), 4, 2, 2, 1);
        places("all nine", sailed(fleet(9), 1, 1, 1, 1, 1, 1, 1, 1, 1), 1, 1, 1, 1, 1, 1, 1, 1, 1);
        places("eight and one", sailed(fleet(9), 1, 1, 1, 1, 2, 1, 1, 1, 1), 1, 1, 1, 1, 9, 1, 1, 1, 1);
    }

    private static void roundingMakesSameTimes() {
        Story s = Story.fleet(150, 150, 100, 100).and(x -> Scene.sailResults(x, 3, 4, 2, 3));
        places("200, 266, 200, 300 hundredths", s, 1, 1, 1, 4);
        places("133 and 100 hundredths", Story.fleet(150, 100).and(x -> Scene.sailResults(x, 2, 1)), 1, 1);
        places("66 and 100 hundredths", Story.fleet(150, 100).and(x -> Scene.sailResults(x, 1, 1)), 1, 2);
    }

    private static void disqualifiedBoatsDoNotCountForPlaces() {
        Story s = Story.sailing(100, 100, 100, 100).and(x -> x.hail(3, 0)).passed(1)
                .and(x -> Scene.finish(x, 0)).passed(1).and(x -> Scene.finish(x, 1)).and(x -> Scene.finish(x, 3))
                .and(x -> x.file(0));
        places("before the decision", s.and(x -> x.close()), 1, 2, RegattaTimes.NONE, 2);
        places("disqualified", s.and(x -> x.decide(0, true)).and(x -> x.close()), RegattaTimes.NONE, 1,
                RegattaTimes.NONE, 1);
        places("decided when closed", s.and(x -> x.close()).and(x -> x.decide(0, true)), RegattaTimes.NONE, 1,
                RegattaTimes.NONE, 1);
    }

    /** "A disqualified boat has as many points as there are boats, plus 2; each other boat .. plus 1." */
    private static void pointsOfOneToNineBoats() {
        for (int n = 1; n <= 9; n++) {
            int boats = n;
            Story none = sailed(fleet(boats), new int[boats]);
            due.is("23: none of " + boats + " has finished", none, x -> x.result(0, 0, 8), boats + 1);
            due.is("23: the last one, too", none, x -> x.result(0, boats - 1, 8), boats + 1);
            if (boats > 1) {
                int[] seconds = new int[boats];
                seconds[0] = 1;
                seconds[boats - 1] = DSQ;
                Story one = sailed(fleet(boats), seconds);
                due.is("23: disqualified of " + boats, one, x -> x.result(0, boats - 1, 8), boats + 2);
                due.is("23: the only one in a place", one, x -> x.result(0, 0, 8), 1);
            }
        }
    }

    private static void pointsOfEachKind() {
        Story s = Story.fleet(100, 100, 100, 100, 100, 100, 100).and(x -> x.prepare(1, 1, 60))
                .and(x -> x.line(1)).passed(60).and(x -> {
                    for (int boat = 2; boat < 7; boat++) {
                        x.line(boat);
                    }
                    x.hail(3, 4);
                    x.hail(3, 5);
                    x.hail(3, 6);
                    Scene.finish(x, 3);
                    x.retire(4);
                    x.retire(5);
                    Scene.finish(x, 6);
                    x.file(1);
                    x.file(2);
                    x.decide(1, true);
                    x.decide(2, true);
                });
        Story closed = s.and(x -> x.close());
        int[] points = {8, 8, 8, 1, 8, 9, 9};
        for (int b = 0; b < 7; b++) {
            int boat = b;
            due.is("23: points of " + boat, closed, x -> x.result(0, boat, 8), points[boat]);
            due.is("23: its place", closed, x -> x.result(0, boat, 7), boat == 3 ? 1 : RegattaTimes.NONE);
            due.is("24: its total", closed, x -> x.boat(boat, 1), points[boat]);
            due.is("23: no points before the close", s, x -> x.result(0, boat, 8), RegattaTimes.NONE);
            due.is("24: no total before the close", s, x -> x.boat(boat, 1), 0);
        }
        Story sailing = Story.sailing(100, 100).and(x -> x.hail(0, 1)).and(x -> Scene.finish(x, 0))
                .and(x -> x.file(0)).and(x -> x.decide(0, true)).and(x -> x.close());
        due.is("23: disqualified while it sailed", sailing, x -> x.result(0, 1, 8), 4);
    }

    // Of two boats, what the boat 0 has in each race: the greatest points stand in races 1 and 4.
    private static final int[] POINTS = {1, 4, 2, 3, 4, 1};
    private static final int[] SECONDS_0 = {1, DSQ, 2, OUT, DSQ, 1};

    private static Story races(int races) {
        Story s = fleet(2);
        for (int race = 0; race < races; race++) {
            s = sailed(s, SECONDS_0[race], SECONDS_0[race] == 1 ? 2 : 1);
        }
        return s;
    }

    /** "The total of a boat is the sum of its points in all closed races". */
    private static void totalsOfNoRaceToSix() {
        int sum = 0;
        for (int races = 0; races <= 6; races++) {
            Story s = races(races).and(x -> x.set(RegattaTimes.DISCARD, 0));
            due.is("24: total of " + races, s, x -> x.boat(0, 1), sum);
            due.is("24: none is left out", s, x -> x.boat(0, 3), RegattaTimes.NONE);
            if (races < 6) {
                int race = races;
                due.is("23: points in race " + race, races(race + 1), x -> x.result(race, 0, 8), POINTS[race]);
                due.is("24: a prepared race does not count", s.and(x -> Scene.start(x)), x -> x.boat(0, 1), sum);
                sum += POINTS[races];
            }
        }
    }

    /** "if there are at least DISCARD closed races, and DISCARD is not 0, the greatest points .. are left out". */
    private static void discardsOfNoRaceToSix() {
        for (int races = 0; races <= 6; races++) {
            Story s = races(races);
            for (int d = 0; d <= 6; d++) {
                int discard = d;
                int sum = 0;
                int greatest = 0;
                int worst = RegattaTimes.NONE;
                for (int race = 0; race < races; race++) {
                    sum += POINTS[race];
                    worst = POINTS[race] >= greatest ? race : worst;
                    greatest = Math.max(greatest, POINTS[race]);
                }
                boolean isLeftOut = discard != 0 && races >= discard;
                String what = "24: " + races + " races, DISCARD " + discard;
                Story set = s.and(x -> x.set(RegattaTimes.DISCARD, discard));
                due.is(what + ", total", set, x -> x.boat(0, 1), isLeftOut ? sum - greatest : sum);
                due.is(what + ", left out", set, x -> x.boat(0, 3), isLeftOut ? worst : RegattaTimes.NONE);
                if (races < 6) {
                    Story prepared = set.and(x -> Scene.start(x));
                    due.is(what + ", one more is prepared", prepared, x -> x.boat(0, 3),
                            isLeftOut ? worst : RegattaTimes.NONE);
                }
            }
        }
    }

    /** "of several with the greatest points the last one". */
    private static void ofSeveralGreatestTheLast() {
        Story s = fleet(2).and(x -> x.set(RegattaTimes.DISCARD, 1));
        int[][] seconds = {{1, 2}, {1, 2}, {2, 1}, {1, 2}, {2, 1}, {1, 2}};
        int[] leftOut = {0, 1, 2, 2, 4, 4};
        int[] leftOutOfTheOther = {0, 1, 1, 3, 3, 5};
        for (int r = 0; r < 6; r++) {
            s = sailed(s, seconds[r]);
            due.is("24: left out of 0 after " + r, s, x -> x.boat(0, 3), leftOut[r]);
            due.is("24: left out of 1 after " + r, s, x -> x.boat(1, 3), leftOutOfTheOther[r]);
        }
    }

    /** "the greatest points of one race are left out". */
    private static void onlyOneRaceIsLeftOut() {
        Story s = fleet(2).and(x -> x.set(RegattaTimes.DISCARD, 2));
        for (int races = 1; races <= 6; races++) {
            s = sailed(s, 1, 2);
            due.is("24: second " + races + " times", s, x -> x.boat(1, 1), races == 1 ? 2 : 2 * races - 2);
            due.is("24: first " + races + " times", s, x -> x.boat(0, 1), races == 1 ? 1 : races - 1);
        }
    }

    private static void ranks(String what, Story s, int... boats) {
        for (int r = 1; r <= boats.length; r++) {
            int rank = r;
            due.is("25: " + what + ", rank " + rank, s, x -> x.ranked(rank), boats[rank - 1]);
            due.is("24: " + what + ", rank " + rank, s, x -> x.boat(boats[rank - 1], 2), rank);
        }
        due.is("25: " + what + ", no more", s, x -> x.ranked(boats.length + 1), RegattaTimes.NONE);
    }

    /** "A boat is ahead of another one in the series if its total is less". */
    private static void aheadByTotal() {
        ranks("one race", sailed(fleet(3), 3, 1, 2), 1, 2, 0);
        ranks("one less, with fewer places 1", sailed(sailed(sailed(fleet(3), 1, 2, 3), 1, 2, 3), DSQ, 1, 2), 1, 0, 2);
        ranks("nine boats", sailed(fleet(9), 9, 8, 7, 6, 5, 4, 3, 2, 1), 8, 7, 6, 5, 4, 3, 2, 1, 0);
    }

    /** So many seconds for each of nine boats, of which 0 and 8 have these places. */
    private static int[] withPlaces(int first, int last) {
        int[] seconds = new int[9];
        seconds[0] = first;
        seconds[8] = last;
        int next = 1;
        for (int boat = 1; boat < 8; boat++) {
            while (next == first || next == last) {
                next++;
            }
            seconds[boat] = next++;
        }
        return seconds;
    }

    /**
     * "with the same total, if it has more places 1 in closed races; with as many of these, if it has more
     * places 2, and so on": boat 8 has the places k and k + 2, boat 0 has k + 1 twice, and more in the last race.
     */
    private static void aheadByEachPlace() {
        for (int k = 1; k <= 7; k++) {
            Story s = sailed(sailed(fleet(9), withPlaces(k + 1, k)), withPlaces(k + 1, k + 2));
            due.is("24: total of 0", s, x -> x.boat(0, 1), 2 * k + 2);
            due.is("24: total of 8", s, x -> x.boat(8, 1), 2 * k + 2);
            isAhead("by the place " + k, s, 8, 0);
        }
        Story eight = sailed(sailed(fleet(9), withPlaces(9, 8)), OUT, 1, 2, 3, 4, 5, 6, 7, DSQ);
        due.is("24: total of 0, 9 and 10", eight, x -> x.boat(0, 1), 19);
        due.is("24: total of 8, 8 and 11", eight, x -> x.boat(8, 1), 19);
        isAhead("by the place 8", eight, 8, 0);
    }

    private static void isAhead(String what, Story s, int boat, int other) {
        double rank = s.answer(x -> x.boat(boat, 2));
        double otherRank = s.answer(x -> x.boat(other, 2));
        due.holds("24: ahead " + what + ", ranks " + rank + " and " + otherRank, rank < otherRank);
    }

    /** "up to the place 9": boat 8 has 1, 11 and 9 points, boat 0 has 10, 10 and 1. */
    private static void aheadByThePlaceNine() {
        Story s = sailed(fleet(9), OUT, 2, 3, 4, 5, 6, 7, 8, 1);
        s = sailed(s, OUT, 1, 2, 3, 4, 5, 6, 7, DSQ);
        s = sailed(s, withPlaces(1, 9));
        Story last = s;
        due.is("24: total of 0", last, x -> x.boat(0, 1), 21);
        due.is("24: total of 8", last, x -> x.boat(8, 1), 21);
        due.is("24: places 1 of 0", last, x -> x.boat(0, 4), 1);
        due.is("24: places 1 of 8", last, x -> x.boat(8, 4), 1);
        isAhead("by the place 9", last, 8, 0);
    }

    /** "more places 1 in closed races": also in the one that is left out of the total. */
    private static void placesOfTheRaceLeftOutCount() {
        Story s = sailed(sailed(fleet(2), 1, 1), 1, 2).and(x -> x.set(RegattaTimes.DISCARD, 2));
        due.is("24: total of 0, 1 left out", s, x -> x.boat(0, 1), 1);
        due.is("24: total of 1, 2 left out", s, x -> x.boat(1, 1), 1);
        due.is("24: places 1 of 0", s, x -> x.boat(0, 4), 2);
        due.is("24: places 1 of 1", s, x -> x.boat(1, 4), 1);
        Story swapped = sailed(sailed(fleet(2), 1, 1), 2, 1).and(x -> x.set(RegattaTimes.DISCARD, 2));
        ranks("by the place that is left out", swapped, 1, 0);
        ranks("the other way round", s, 0, 1);
        Story second = sailed(sailed(fleet(3), 1, 2, 3), 3, 1, 2).and(x -> x.set(RegattaTimes.DISCARD, 2));
        ranks("by the place 2 that is left out", second, 1, 0, 2);
    }

    /** "in closed races": not in the one that is prepared. */
    private static void placesOfPreparedRacesDoNotCount() {
        Story s = sailed(sailed(fleet(2), 1, 2), 2, 1).and(x -> Scene.start(x)).and(x -> Scene.finish(x, 0))
                .passed(1).and(x -> Scene.finish(x, 1));
        due.is("24: places 1 of 0", s, x -> x.boat(0, 4), 1);
        ranks("a race is prepared", s, 1, 0);
        due.is("24: places 1 of 0, closed", s.and(x -> x.close()), x -> x.boat(0, 4), 2);
        ranks("it is closed", s.and(x -> x.close()), 0, 1);
    }

    /** "with as many of each, if it has less points in the last closed race". */
    private static void aheadByTheLastClosedRace() {
        Story s = sailed(sailed(fleet(2), 1, 2), 2, 1);
        ranks("by the last race", s, 1, 0);
        ranks("by the last closed race", s.and(x -> x.prepare(1, 1, 60)), 1, 0);
        ranks("the other way round", sailed(sailed(fleet(2), 2, 1), 1, 2), 0, 1);
        ranks("though it is left out", s.and(x -> x.set(RegattaTimes.DISCARD, 2)), 1, 0);
        Story without = sailed(sailed(fleet(3), OUT, DSQ, 1), DSQ, OUT, 1);
        due.is("24: total of 0", without, x -> x.boat(0, 1), 9);
        due.is("24: total of 1", without, x -> x.boat(1, 1), 9);
        ranks("without any place", without, 2, 1, 0);
    }

    /** "and then, if its number is lower". */
    private static void aheadByNumber() {
        ranks("without races", fleet(9), 0, 1, 2, 3, 4, 5, 6, 7, 8);
        ranks("in a prepared race", fleet(3).and(x -> Scene.start(x)), 0, 1, 2);
        ranks("nothing is different", sailed(fleet(3), 1, 1, 1), 0, 1, 2);
        ranks("none has finished", sailed(fleet(3), OUT, OUT, OUT), 0, 1, 2);
        ranks("the same last race", sailed(sailed(sailed(fleet(3), 2, 1, 3), 1, 2, 3), 1, 1, OUT), 0, 1, 2);
    }
}
