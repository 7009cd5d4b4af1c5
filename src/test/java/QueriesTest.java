/** Promises 23 to 28: result, boat, ranked, race, protest, count; and the points. */
public final class QueriesTest {
    private static final Due due = new Due();

    public static void main(String[] args) {
        resultOfARace();
        resultWrongly();
        placesAndPoints();
        lateDecisionsChangePoints();
        boatWrongly();
        discards();
        discardsAfterUndo();
        ranksByTotal();
        ranksByPlaces();
        ranksByThePlaceNine();
        ranksByTheLastRace();
        race();
        raceLeader();
        protest();
        count();
        due.end();
    }

    private static void resultOfARace() {
        RegattaTimes x = Scene.sailing(70, 100);
        x.hail(1, 0);
        x.accept(0);
        due.is("23: no elapsed time", x.result(0, 0, 5), RegattaTimes.NONE);
        due.is("23: no corrected time", x.result(0, 0, 6), RegattaTimes.NONE);
        x.pass(40);
        x.buoy(0, 0);
        x.buoy(0, 0);
        x.buoy(0, 0);
        x.line(0);
        int[] want = {3, 1, 2, 60, 0, 100, 142, RegattaTimes.NONE, RegattaTimes.NONE};
        for (int what = 0; what <= 8; what++) {
            due.is("23: result(0, 0, " + what + ")", x.result(0, 0, what), want[what]);
        }
        x.retire(1);
        due.is("23: retired, no elapsed time", x.result(0, 1, 5), RegattaTimes.NONE);
        x.close();
        due.is("23: its place", x.result(0, 0, 7), 1);
        due.is("23: its points", x.result(0, 0, 8), 1);
        due.is("23: retired, no place", x.result(0, 1, 7), RegattaTimes.NONE);
        due.is("23: retired, points", x.result(0, 1, 8), 3);
        x.prepare(1, 1, 60);
        due.is("23: the race before", x.result(0, 0, 6), 142);
        due.is("23: its place there", x.result(0, 0, 7), 1);
        due.is("23: the next race", x.result(1, 0, 7), RegattaTimes.NONE);
        due.is("23: its points there", x.result(1, 0, 8), RegattaTimes.NONE);
    }

    private static void resultWrongly() {
        RegattaTimes x = Scene.fleet(100);
        due.is("23: no race", x.result(0, 0, 9), RegattaTimes.NO_SUCH);
        x.prepare(1, 1, 60);
        due.is("23: result(1, 0, 0)", x.result(1, 0, 0), RegattaTimes.NO_SUCH);
        due.is("23: result(-1, 0, 0)", x.result(-1, 0, 0), RegattaTimes.NO_SUCH);
        due.is("23: result(0, 1, 9)", x.result(0, 1, 9), RegattaTimes.NO_SUCH);
        due.is("23: result(0, -1, 0)", x.result(0, -1, 0), RegattaTimes.NO_SUCH);
        due.is("23: result(0, 0, 9)", x.result(0, 0, 9), RegattaTimes.BAD_VALUE);
        due.is("23: result(0, 0, -1)", x.result(0, 0, -1), RegattaTimes.BAD_VALUE);
    }

    private static void placesAndPoints() {
        RegattaTimes x = Scene.sailing(100, 100, 50, 100, 100, 100);
        x.hail(0, 4);
        x.pass(10);
        Scene.finish(x, 2);
        x.pass(10);
        Scene.finish(x, 0);
        Scene.finish(x, 1);
        Scene.finish(x, 4);
        x.pass(1);
        Scene.finish(x, 3);
        x.file(0);
        x.decide(0, true);
        x.close();
        int[] place = {1, 1, 1, 4, RegattaTimes.NONE, RegattaTimes.NONE};
        int[] points = {1, 1, 1, 4, 8, 7};
        for (int boat = 0; boat < 6; boat++) {
            due.is("23: place of " + boat, x.result(0, boat, 7), place[boat]);
            due.is("23: points of " + boat, x.result(0, boat, 8), points[boat]);
            due.is("24: total of " + boat, x.boat(boat, 1), points[boat]);
        }
        due.is("23: a disqualified boat has its time", x.result(0, 4, 6), 20);
        due.is("23: it is disqualified", x.result(0, 4, 4), 1);
    }

    private static void lateDecisionsChangePoints() {
        RegattaTimes x = Scene.sailing(100, 100, 100);
        x.hail(2, 0);
        x.hail(2, 1);
        x.pass(10);
        Scene.finish(x, 0);
        x.pass(10);
        Scene.finish(x, 1);
        x.pass(10);
        Scene.finish(x, 2);
        x.close();
        due.is("23: third", x.result(0, 2, 8), 3);
        x.accept(0);
        due.is("23: the penalty moves it up", x.result(0, 2, 8), 2);
        due.is("23: and the other one down", x.result(0, 0, 8), 3);
        x.file(1);
        x.decide(1, true);
        due.is("23: the disqualification, too", x.result(0, 2, 7), 1);
        due.is("24: in the series", x.ranked(1), 2);
    }

    private static void boatWrongly() {
        RegattaTimes x = Scene.fleet(100, 90);
        due.is("24: boat(2, 9)", x.boat(2, 9), RegattaTimes.NO_SUCH);
        due.is("24: boat(-1, 0)", x.boat(-1, 0), RegattaTimes.NO_SUCH);
        due.is("24: boat(0, 5)", x.boat(0, 5), RegattaTimes.BAD_VALUE);
        due.is("24: boat(0, -1)", x.boat(0, -1), RegattaTimes.BAD_VALUE);
        int[] want = {90, 0, 2, RegattaTimes.NONE, 0};
        for (int what = 0; what <= 4; what++) {
            due.is("24: without races, boat(1, " + what + ")", x.boat(1, what), want[what]);
        }
        due.is("25: ranked(0)", x.ranked(0), RegattaTimes.BAD_VALUE);
        due.is("25: ranked(-9)", x.ranked(-9), RegattaTimes.BAD_VALUE);
        due.is("25: ranked(1)", x.ranked(1), 0);
        due.is("25: ranked(2)", x.ranked(2), 1);
        due.is("25: ranked(3)", x.ranked(3), RegattaTimes.NONE);
        due.is("25: ranked(MAX)", x.ranked(Integer.MAX_VALUE), RegattaTimes.NONE);
        due.is("25: no boats", new RegattaTimes().ranked(1), RegattaTimes.NONE);
    }

    private static void discards() {
        RegattaTimes x = Scene.fleet(100, 100, 100);
        Scene.sail(x, 0, 1, 2);
        Scene.sail(x, 1, 2, 0);
        Scene.sail(x, 2, 1, 0);
        due.is("24: fewer than DISCARD races", x.boat(0, 1), 7);
        due.is("24: none is left out", x.boat(0, 3), RegattaTimes.NONE);
        x.set(RegattaTimes.DISCARD, 3);
        due.is("24: as many as DISCARD", x.boat(0, 1), 4);
        due.is("24: the last of the greatest ones", x.boat(0, 3), 2);
        due.is("24: boat(1, 3)", x.boat(1, 3), 2);
        due.is("24: boat(2, 3)", x.boat(2, 3), 0);
        due.is("24: places 1", x.boat(0, 4), 1);
        x.set(RegattaTimes.DISCARD, 1);
        due.is("24: more than DISCARD", x.boat(0, 1), 4);
        x.set(RegattaTimes.DISCARD, 0);
        due.is("24: DISCARD is 0", x.boat(0, 1), 7);
        due.is("24: none is left out then", x.boat(0, 3), RegattaTimes.NONE);
        x.set(RegattaTimes.DISCARD, 4);
        x.prepare(1, 1, 60);
        due.is("24: a prepared race is not closed", x.boat(0, 3), RegattaTimes.NONE);
        due.is("24: and has no points", x.boat(0, 1), 7);
        x.pass(60);
        x.close();
        due.is("24: four closed races", x.boat(0, 3), 3);
        due.is("24: their total", x.boat(0, 1), 7);
        RegattaTimes y = Scene.fleet(100);
        y.set(RegattaTimes.DISCARD, 1);
        due.is("24: no race to leave out", y.boat(0, 3), RegattaTimes.NONE);
        Scene.sail(y, 0);
        due.is("24: the only race is left out", y.boat(0, 3), 0);
        due.is("24: the total is 0", y.boat(0, 1), 0);
        due.is("24: its place 1 still counts", y.boat(0, 4), 1);
    }

    private static void discardsAfterUndo() {
        RegattaTimes x = Scene.fleet(100, 100);
        Scene.sail(x, 1, 0);
        due.is("24: total", x.boat(0, 1), 2);
        due.is("24: place 1", x.boat(1, 4), 1);
        x.undo();
        due.is("24: no closed race", x.boat(0, 1), 0);
        due.is("24: no place 1", x.boat(1, 4), 0);
        due.is("25: by number", x.ranked(1), 0);
        due.is("32: no closed race", x.mean(0), 0.0f);
    }

    private static void order(String what, RegattaTimes x, int... boats) {
        for (int rank = 1; rank <= boats.length; rank++) {
            due.is("25: " + what + ", ranked(" + rank + ")", x.ranked(rank), boats[rank - 1]);
            due.is("24: " + what + ", rank", x.boat(boats[rank - 1], 2), rank);
        }
    }

    private static void ranksByTotal() {
        RegattaTimes x = Scene.fleet(100, 100, 100, 100);
        Scene.sail(x, 3, 1, 0, 2);
        order("one race", x, 3, 1, 0, 2);
        Scene.sail(x, 1, 0, 2, 3);
        order("two races", x, 1, 3, 0, 2);
    }

    private static void ranksByPlaces() {
        RegattaTimes x = Scene.fleet(100, 100, 100);
        Scene.sail(x, 2, 0, 1);
        Scene.sail(x, 1, 0, 2);
        order("totals 4, places 1", x, 1, 2, 0);
        RegattaTimes y = Scene.fleet(100, 100, 100, 100, 100);
        Scene.sail(y, 2, 3, 4, 0, 1);
        Scene.sail(y, 2, 0, 4, 3, 1);
        order("totals 6, places 2", y, 2, 0, 3, 4, 1);
        RegattaTimes z = Scene.fleet(100, 100);
        z.set(RegattaTimes.DISCARD, 2);
        Scene.sail(z, 0);
        Scene.sail(z, 0, 1);
        Scene.sail(z, 1, 0);
        Scene.sail(z, 1, 0);
        z.set(RegattaTimes.DISCARD, 0);
        due.is("24: total of 0", z.boat(0, 1), 6);
        due.is("24: total of 1", z.boat(1, 1), 7);
        z.set(RegattaTimes.DISCARD, 2);
        due.is("24: total of 0, less one", z.boat(0, 1), 4);
        due.is("24: total of 1, less one", z.boat(1, 1), 4);
        due.is("24: places 1 of 0", z.boat(0, 4), 2);
        due.is("24: places 1 of 1", z.boat(1, 4), 2);
        order("the place 2 that is left out counts", z, 0, 1);
    }

    /** Boats 0 and 1 both leave out all but a place 1; the place 9 of 1 counts before the last race. */
    private static void ranksByThePlaceNine() {
        RegattaTimes x = Scene.fleet(100, 100, 100, 100, 100, 100, 100, 100, 100);
        x.set(RegattaTimes.DISCARD, 2);
        Scene.sail(x, 1, 2, 3, 4, 5, 6, 7, 8);
        Scene.sail(x, 0, 2, 3, 4, 5, 6, 7, 8, 1);
        due.is("23: place 9", x.result(1, 1, 7), 9);
        due.is("24: total of 0", x.boat(0, 1), 1);
        due.is("24: total of 1", x.boat(1, 1), 1);
        order("the place 9", x, 1, 0);
    }

    private static void ranksByTheLastRace() {
        RegattaTimes x = Scene.fleet(100, 100);
        Scene.sail(x, 0, 1);
        Scene.sail(x, 1, 0);
        order("the last race", x, 1, 0);
        x.prepare(1, 1, 60);
        order("the last closed race", x, 1, 0);
        RegattaTimes y = Scene.fleet(100, 100, 100);
        Scene.start(y);
        Scene.finish(y, 1);
        Scene.finish(y, 2);
        y.close();
        order("then the lower number", y, 1, 2, 0);
    }

    private static void race() {
        RegattaTimes x = Scene.fleet(100, 100, 100);
        due.is("26: no race", x.race(0, 9), RegattaTimes.NO_SUCH);
        x.prepare(4, 3, 100);
        due.is("26: race(-1, 0)", x.race(-1, 0), RegattaTimes.NO_SUCH);
        due.is("26: race(1, 0)", x.race(1, 0), RegattaTimes.NO_SUCH);
        due.is("26: race(0, 7)", x.race(0, 7), RegattaTimes.BAD_VALUE);
        due.is("26: race(0, -1)", x.race(0, -1), RegattaTimes.BAD_VALUE);
        int[] want = {4, 3, 100, 1, 0, 0, RegattaTimes.NONE};
        for (int what = 0; what <= 6; what++) {
            due.is("26: race(0, " + what + ")", x.race(0, what), want[what]);
        }
        x.pass(100);
        x.close();
        due.is("26: closed", x.race(0, 3), 2);
        Scene.start(x);
        due.is("26: the first one is closed", x.race(0, 3), 2);
        due.is("26: the second one is prepared", x.race(1, 3), 1);
        due.is("26: buoys of the first one", x.race(0, 0), 4);
    }

    private static void raceLeader() {
        RegattaTimes x = Scene.sailing(100, 50, 100, 100);
        x.hail(1, 2);
        x.pass(10);
        Scene.finish(x, 1);
        due.is("26: the only one", x.race(0, 6), 1);
        due.is("26: finished boats", x.race(0, 4), 1);
        Scene.finish(x, 2);
        due.is("26: the least corrected time", x.race(0, 6), 2);
        x.pass(10);
        Scene.finish(x, 0);
        due.is("26: still the least one", x.race(0, 6), 2);
        x.file(0);
        x.decide(0, true);
        due.is("26: disqualified boats", x.race(0, 5), 1);
        due.is("26: finished boats, that one too", x.race(0, 4), 3);
        due.is("26: of several the lowest number", x.race(0, 6), 0);
        x.close();
        due.is("26: when closed", x.race(0, 6), 0);
    }

    private static void protest() {
        RegattaTimes x = Scene.sailing(100, 100);
        due.is("27: no protest", x.protest(0, 9), RegattaTimes.NO_SUCH);
        x.pass(5);
        x.hail(1, 0);
        int[] want = {1, 0, 65, 0};
        for (int what = 0; what <= 3; what++) {
            due.is("27: protest(0, " + what + ")", x.protest(0, what), want[what]);
        }
        due.is("27: protest(-1, 0)", x.protest(-1, 0), RegattaTimes.NO_SUCH);
        due.is("27: protest(1, 0)", x.protest(1, 0), RegattaTimes.NO_SUCH);
        due.is("27: protest(0, 4)", x.protest(0, 4), RegattaTimes.BAD_VALUE);
        due.is("27: protest(0, -1)", x.protest(0, -1), RegattaTimes.BAD_VALUE);
        x.close();
        due.is("27: when closed", x.protest(0, 2), 65);
    }

    private static void count() {
        RegattaTimes x = Scene.fleet(100, 100);
        Scene.sail(x, 0, 1);
        due.is("28: the latest race is closed", x.count(4), 2);
        due.is("28: closed races", x.count(2), 1);
        Scene.start(x);
        x.hail(0, 1);
        x.set(0, 1);
        x.set(1, 2);
        x.set(2, 3);
        x.append('l');
        int[] want = {2, 2, 1, 122, 1, 1, 1, 2, 3, 4, 1};
        for (int what = 0; what <= 10; what++) {
            due.is("28: count(" + what + ")", x.count(what), want[what]);
        }
        due.is("28: count(-1)", x.count(-1), RegattaTimes.BAD_VALUE);
        due.is("28: count(11)", x.count(11), RegattaTimes.BAD_VALUE);
    }
}
