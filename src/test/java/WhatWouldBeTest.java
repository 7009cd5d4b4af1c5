/** Promises 29 to 32: placeNow, secondsLeft, rankIfDisqualified, mean. */
public final class WhatWouldBeTest {
    private static final Due due = new Due();

    public static void main(String[] args) {
        placeNow();
        secondsLeft();
        secondsLeftAreTheGreatest();
        secondsLeftWrongly();
        rankIfDisqualified();
        rankIfDisqualifiedLiftsOthers();
        rankIfDisqualifiedWrongly();
        mean();
        due.end();
    }

    private static void placeNow() {
        RegattaTimes x = Scene.fleet(100, 100, 50, 100);
        due.is("29: no boat, no race", x.placeNow(4), RegattaTimes.NO_SUCH);
        due.is("29: no race", x.placeNow(0), RegattaTimes.NOT_POSSIBLE);
        Scene.start(x);
        x.hail(3, 0);
        due.is("29: placeNow(-1)", x.placeNow(-1), RegattaTimes.NO_SUCH);
        due.is("29: sailing", x.placeNow(0), RegattaTimes.NONE);
        x.pass(10);
        Scene.finish(x, 0);
        Scene.finish(x, 2);
        x.pass(5);
        Scene.finish(x, 3);
        due.is("29: the first one", x.placeNow(0), 1);
        due.is("29: the third one", x.placeNow(2), 3);
        due.is("29: the second one", x.placeNow(3), 2);
        x.file(0);
        x.decide(0, true);
        due.is("29: disqualified", x.placeNow(0), RegattaTimes.NONE);
        due.is("29: others move up", x.placeNow(3), 1);
        due.is("29: another one, too", x.placeNow(2), 2);
        x.close();
        due.is("29: closed", x.placeNow(3), RegattaTimes.NOT_POSSIBLE);
    }

    private static void secondsLeft() {
        RegattaTimes x = Scene.sailing(100, 150, 50, 100);
        x.hail(1, 2);
        x.hail(1, 0);
        due.is("30: none has finished", x.secondsLeft(0), RegattaTimes.NONE);
        x.pass(100);
        Scene.finish(x, 1);
        due.is("30: it is too late", x.secondsLeft(0), RegattaTimes.NONE);
        x.undo();
        x.pass(100);
        x.line(1);
        due.is("30: corrected 133, it is too late", x.secondsLeft(0), RegattaTimes.NONE);
        x.accept(1);
        due.is("30: with a penalty, too", x.secondsLeft(0), RegattaTimes.NONE);
        RegattaTimes y = Scene.sailing(100, 150, 50);
        y.hail(2, 1);
        y.pass(100);
        Scene.finish(y, 0);
        due.is("30: up to 149 seconds", y.secondsLeft(1), 49);
        due.is("30: a slow boat", y.secondsLeft(2), RegattaTimes.NONE);
        y.pass(10);
        due.is("30: ten seconds later", y.secondsLeft(1), 39);
        y.set(RegattaTimes.PENALTY, 39);
        y.accept(0);
        due.is("30: with penalties, just now", y.secondsLeft(1), 0);
        y.pass(1);
        due.is("30: a second later", y.secondsLeft(1), RegattaTimes.NONE);
    }

    /** For each rating, finishing after just so many seconds is in time, and a second later is not. */
    private static void secondsLeftAreTheGreatest() {
        for (int rating = 50; rating <= 150; rating++) {
            RegattaTimes x = Scene.sailing(97, rating);
            x.pass(401);
            Scene.finish(x, 0);
            int least = x.result(0, 0, 6);
            int left = x.secondsLeft(1);
            x.buoy(1, 0);
            if (left == RegattaTimes.NONE) {
                x.line(1);
                due.holds("30: rating " + rating + " is too late", x.result(0, 1, 6) >= least);
                continue;
            }
            if (left > 0) {
                x.pass(left);
            }
            x.line(1);
            due.holds("30: rating " + rating + " is in time", x.result(0, 1, 6) < least);
            x.undo();
            x.pass(1);
            x.line(1);
            due.holds("30: rating " + rating + " is a second late", x.result(0, 1, 6) >= least);
        }
    }

    private static void secondsLeftWrongly() {
        RegattaTimes x = Scene.fleet(100, 100, 100);
        due.is("30: no boat, no race", x.secondsLeft(3), RegattaTimes.NO_SUCH);
        due.is("30: no race", x.secondsLeft(0), RegattaTimes.NOT_POSSIBLE);
        x.prepare(1, 1, 60);
        due.is("30: secondsLeft(-1)", x.secondsLeft(-1), RegattaTimes.NO_SUCH);
        due.is("30: waiting", x.secondsLeft(0), RegattaTimes.NOT_POSSIBLE);
        x.pass(60);
        x.line(0);
        x.line(1);
        x.line(2);
        Scene.finish(x, 0);
        due.is("30: finished", x.secondsLeft(0), RegattaTimes.NOT_POSSIBLE);
        due.is("30: none is less than 0", x.secondsLeft(1), RegattaTimes.NONE);
        x.hail(0, 1);
        x.hail(1, 0);
        x.pass(10);
        Scene.finish(x, 1);
        x.file(1);
        x.decide(1, true);
        due.is("30: a disqualified boat does not matter", x.secondsLeft(2), RegattaTimes.NONE);
        x.undo();
        x.accept(1);
        due.is("30: with the penalty of the first one", x.secondsLeft(2), RegattaTimes.NONE);
        x.file(0);
        x.decide(0, true);
        due.is("30: now the first one is the least", x.secondsLeft(2), 49);
        x.retire(2);
        due.is("30: retired", x.secondsLeft(2), RegattaTimes.NOT_POSSIBLE);
        x.close();
        due.is("30: closed", x.secondsLeft(2), RegattaTimes.NOT_POSSIBLE);
    }

    private static void rankIfDisqualified() {
        RegattaTimes x = Scene.fleet(100, 100, 100);
        Scene.sail(x, 0, 1, 2);
        Scene.sail(x, 0, 1, 2);
        due.is("31: rankIfDisqualified(0, 0)", x.rankIfDisqualified(0, 0), 3);
        due.is("31: rankIfDisqualified(1, 1)", x.rankIfDisqualified(1, 1), 3);
        due.is("31: rankIfDisqualified(2, 0)", x.rankIfDisqualified(2, 0), 3);
        due.is("31: nothing is changed", x.boat(0, 2), 1);
        due.is("31: nobody is disqualified", x.race(0, 5), 0);
        due.is("31: not an action", x.undo(), 3);
        x.close();
        x.set(RegattaTimes.DISCARD, 2);
        due.is("31: it would be left out", x.rankIfDisqualified(0, 0), 2);
        RegattaTimes y = Scene.fleet(100, 100, 100);
        Scene.start(y);
        Scene.finish(y, 0);
        Scene.finish(y, 1);
        y.hail(1, 0);
        y.file(0);
        y.decide(0, true);
        y.close();
        due.is("31: disqualified already", y.rankIfDisqualified(0, 0), 3);
        due.is("31: as it is", y.boat(0, 2), 3);
        due.is("31: one that has not finished", y.rankIfDisqualified(2, 0), 3);
    }

    /** With the greatest points left out, 0 would have 4, and 1 has 5 but with the place 1 it gains, 4. */
    private static void rankIfDisqualifiedLiftsOthers() {
        RegattaTimes x = Scene.fleet(100, 100);
        Scene.sail(x, 0, 1);
        Scene.sail(x, 0, 1);
        Scene.sail(x, 0, 1);
        Scene.sail(x, 1, 0);
        due.is("31: total of 0", x.boat(0, 1), 3);
        due.is("31: total of 1", x.boat(1, 1), 5);
        due.is("31: the other one is lifted", x.rankIfDisqualified(0, 0), 2);
        due.is("31: the total is not changed", x.boat(1, 1), 5);
        x.set(RegattaTimes.DISCARD, 0);
        due.is("31: 0 would have 8, and 1 has 6", x.rankIfDisqualified(0, 0), 2);
        due.is("31: in its worst race, 7 and 7", x.rankIfDisqualified(0, 3), 1);
    }

    private static void rankIfDisqualifiedWrongly() {
        RegattaTimes x = Scene.fleet(100, 100);
        due.is("31: no race", x.rankIfDisqualified(0, 0), RegattaTimes.NO_SUCH);
        x.prepare(1, 1, 60);
        due.is("31: not closed", x.rankIfDisqualified(0, 0), RegattaTimes.NOT_POSSIBLE);
        due.is("31: no boat", x.rankIfDisqualified(2, 0), RegattaTimes.NO_SUCH);
        due.is("31: boat -1", x.rankIfDisqualified(-1, 0), RegattaTimes.NO_SUCH);
        due.is("31: race 1", x.rankIfDisqualified(0, 1), RegattaTimes.NO_SUCH);
        due.is("31: race -1", x.rankIfDisqualified(0, -1), RegattaTimes.NO_SUCH);
        x.pass(60);
        x.close();
        due.is("31: closed", x.rankIfDisqualified(0, 0), 2);
        x.prepare(1, 1, 60);
        due.is("31: the second one is not closed", x.rankIfDisqualified(0, 1), RegattaTimes.NOT_POSSIBLE);
        due.is("31: the first one is", x.rankIfDisqualified(1, 0), 2);
    }

    private static void mean() {
        RegattaTimes x = Scene.fleet(100, 100, 100);
        due.is("32: no race", x.mean(0), 0.0f);
        Scene.sail(x, 0, 1, 2);
        due.is("32: one race", x.mean(2), 3.0f);
        Scene.sail(x, 1, 0, 2);
        due.is("32: two races", x.mean(0), 1.5f);
        Scene.sail(x, 0, 1);
        due.is("32: three races", x.mean(0), 4 / 3.0f);
        due.is("32: not finished", x.mean(2), 10 / 3.0f);
        x.set(RegattaTimes.DISCARD, 1);
        due.is("32: none is left out", x.mean(2), 10 / 3.0f);
        x.prepare(1, 1, 60);
        due.is("32: closed races alone", x.mean(2), 10 / 3.0f);
        due.is("32: mean(-1)", x.mean(-1), 0.0f);
        due.is("32: mean(3)", x.mean(3), 0.0f);
        due.is("32: mean(MIN)", x.mean(Integer.MIN_VALUE), 0.0f);
    }
}
