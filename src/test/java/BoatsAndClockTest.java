/** Promises 1 to 6: a new object, enter, prepare, postpone, recall, pass. */
public final class BoatsAndClockTest {
    private static final Due due = new Due();

    public static void main(String[] args) {
        aNewObject();
        enter();
        prepare();
        prepareClearsProtestsAndBoats();
        postpone();
        recall();
        recallClearsTheRace();
        pass();
        due.end();
    }

    private static void aNewObject() {
        RegattaTimes x = new RegattaTimes();
        for (int what = 0; what <= 5; what++) {
            due.is("1: count(" + what + ")", x.count(what), 0);
        }
        due.is("1: count(6)", x.count(6), 600);
        due.is("1: count(7)", x.count(7), 60);
        due.is("1: count(8)", x.count(8), 4);
        due.is("1: count(9)", x.count(9), 0);
        due.is("1: count(10)", x.count(10), 0);
        due.is("1: undo()", x.undo(), RegattaTimes.NONE);
        due.is("1: restore()", x.restore(), RegattaTimes.NOT_POSSIBLE);
        due.is("1: clearText()", x.clearText(), 0);
        x.enter(100);
        due.is("1: another object is new, too", new RegattaTimes().count(0), 0);
    }

    private static void enter() {
        RegattaTimes x = new RegattaTimes();
        due.is("2: enter(49)", x.enter(49), RegattaTimes.BAD_VALUE);
        due.is("2: enter(151)", x.enter(151), RegattaTimes.BAD_VALUE);
        due.is("2: enter(MIN)", x.enter(Integer.MIN_VALUE), RegattaTimes.BAD_VALUE);
        due.is("2: no boat entered", x.count(0), 0);
        due.is("2: enter(50)", x.enter(50), 0);
        due.is("2: enter(150)", x.enter(150), 1);
        due.is("2: boat(0, 0)", x.boat(0, 0), 50);
        due.is("2: boat(1, 0)", x.boat(1, 0), 150);
        for (int boat = 2; boat < 9; boat++) {
            due.is("2: enter(100)", x.enter(100), boat);
        }
        due.is("2: the tenth boat", x.enter(100), RegattaTimes.TOO_MANY);
        due.is("2: the tenth boat, a bad rating", x.enter(0), RegattaTimes.BAD_VALUE);
        due.is("2: nine boats", x.count(0), 9);
        x.prepare(1, 1, 60);
        due.is("2: prepared, ahead of no room", x.enter(100), RegattaTimes.NOT_POSSIBLE);
        due.is("2: prepared, a bad rating", x.enter(151), RegattaTimes.BAD_VALUE);
        RegattaTimes y = Scene.fleet(100);
        Scene.sail(y, 0);
        due.is("2: when the race is closed", y.enter(100), RegattaTimes.NOT_POSSIBLE);
    }

    private static void prepare() {
        RegattaTimes x = new RegattaTimes();
        due.is("3: no boat", x.prepare(1, 1, 60), RegattaTimes.NOT_POSSIBLE);
        due.is("3: no boat, bad buoys", x.prepare(0, 1, 60), RegattaTimes.BAD_VALUE);
        x.enter(100);
        int[][] bad = {{0, 1, 60}, {6, 1, 60}, {1, 0, 60}, {1, 4, 60}, {1, 1, 59}, {1, 1, 3601}};
        for (int[] b : bad) {
            due.is("3: prepare(" + b[0] + ", " + b[1] + ", " + b[2] + ")",
                    x.prepare(b[0], b[1], b[2]), RegattaTimes.BAD_VALUE);
        }
        due.is("3: none prepared", x.count(1), 0);
        x.pass(7);
        due.is("3: prepare(5, 3, 3600)", x.prepare(5, 3, 3600), 0);
        due.is("3: buoys", x.race(0, 0), 5);
        due.is("3: laps", x.race(0, 1), 3);
        due.is("3: start", x.race(0, 2), 3607);
        due.is("3: prepared", x.race(0, 3), 1);
        due.is("3: one is prepared", x.prepare(1, 1, 60), RegattaTimes.NOT_POSSIBLE);
        due.is("3: one is prepared, bad laps", x.prepare(1, 9, 60), RegattaTimes.BAD_VALUE);
        x.pass(3600);
        x.close();
        for (int race = 1; race < 6; race++) {
            due.is("3: the next race", x.prepare(1, 1, 60), race);
            if (race == 5) {
                due.is("3: the sixth is prepared", x.prepare(1, 1, 60), RegattaTimes.NOT_POSSIBLE);
            }
            x.pass(60);
            x.close();
        }
        due.is("3: a seventh race", x.prepare(1, 1, 60), RegattaTimes.TOO_MANY);
        due.is("3: a seventh race, bad wait", x.prepare(1, 1, 1), RegattaTimes.BAD_VALUE);
        due.is("3: six races", x.count(1), 6);
    }

    private static void prepareClearsProtestsAndBoats() {
        RegattaTimes x = Scene.sailing(100, 100);
        x.hail(0, 1);
        x.accept(0);
        x.close();
        due.is("3: the protest is still there", x.count(5), 1);
        x.prepare(1, 1, 60);
        due.is("3: protests are gone", x.count(5), 0);
        for (int what = 0; what <= 4; what++) {
            due.is("3: result(1, 1, " + what + ")", x.result(1, 1, what), 0);
        }
        due.is("3: the race before is as it was", x.result(0, 1, 3), 60);
        x.pass(60);
        x.line(0);
        x.line(1);
        due.is("3: protests are numbered anew", x.hail(1, 0), 0);
        due.is("3: a new one is hailed", x.protest(0, 3), 0);
    }

    private static void postpone() {
        RegattaTimes x = Scene.fleet(100);
        due.is("4: no race", x.postpone(10), RegattaTimes.NOT_POSSIBLE);
        due.is("4: no race, bad seconds", x.postpone(0), RegattaTimes.BAD_VALUE);
        x.prepare(1, 1, 60);
        x.line(0);
        due.is("4: postpone(0)", x.postpone(0), RegattaTimes.BAD_VALUE);
        due.is("4: postpone(3601)", x.postpone(3601), RegattaTimes.BAD_VALUE);
        due.is("4: postpone(3600)", x.postpone(3600), 3660);
        due.is("4: postpone(1)", x.postpone(1), 3661);
        due.is("4: the start", x.race(0, 2), 3661);
        due.is("4: an early boat stays early", x.result(0, 0, 0), 1);
        x.pass(3660);
        due.is("4: a second before the start", x.postpone(1), 3662);
        x.pass(2);
        due.is("4: at the start", x.postpone(1), RegattaTimes.NOT_POSSIBLE);
        due.is("4: at the start, bad seconds", x.postpone(-1), RegattaTimes.BAD_VALUE);
        x.close();
        due.is("4: closed", x.postpone(1), RegattaTimes.NOT_POSSIBLE);
    }

    private static void recall() {
        RegattaTimes x = Scene.fleet(100);
        due.is("5: no race", x.recall(), RegattaTimes.NOT_POSSIBLE);
        x.prepare(1, 1, 60);
        x.pass(59);
        due.is("5: before the start", x.recall(), RegattaTimes.NOT_POSSIBLE);
        x.pass(1);
        due.is("5: at the start", x.recall(), 360);
        due.is("5: the clock stays", x.count(3), 60);
        due.is("5: before the new start", x.recall(), RegattaTimes.NOT_POSSIBLE);
        x.pass(360);
        due.is("5: 60 seconds after", x.recall(), 720);
        x.pass(361);
        due.is("5: 61 seconds after", x.recall(), RegattaTimes.NOT_POSSIBLE);
        RegattaTimes y = Scene.sailing(100);
        y.close();
        due.is("5: closed", y.recall(), RegattaTimes.NOT_POSSIBLE);
    }

    private static void recallClearsTheRace() {
        RegattaTimes x = Scene.sailing(100, 100, 100);
        x.buoy(1, 0);
        x.buoy(1, 0);
        x.hail(0, 1);
        x.hail(0, 2);
        x.accept(1);
        x.retire(2);
        Scene.finish(x, 0);
        x.file(0);
        due.is("5: decide(0, true)", x.decide(0, true), 1);
        due.is("5: recall()", x.recall(), 360);
        for (int boat = 0; boat < 3; boat++) {
            for (int what = 0; what <= 4; what++) {
                due.is("5: result(0, " + boat + ", " + what + ")", x.result(0, boat, what), 0);
            }
        }
        due.is("5: no protests", x.count(5), 0);
        due.is("5: protest(0, 0)", x.protest(0, 0), RegattaTimes.NO_SUCH);
        due.is("5: the course stays", x.race(0, 0), 1);
        due.is("5: the race is prepared", x.race(0, 3), 1);
    }

    private static void pass() {
        RegattaTimes x = new RegattaTimes();
        due.is("6: pass(0)", x.pass(0), RegattaTimes.BAD_VALUE);
        due.is("6: pass(10000)", x.pass(10000), RegattaTimes.BAD_VALUE);
        due.is("6: pass(MAX)", x.pass(Integer.MAX_VALUE), RegattaTimes.BAD_VALUE);
        due.is("6: pass(1)", x.pass(1), 1);
        for (int i = 0; i < 100; i++) {
            x.pass(9999);
        }
        due.is("6: the clock", x.count(3), 999901);
        due.is("6: above the last time", x.pass(99), RegattaTimes.TOO_MANY);
        due.is("6: a bad value there", x.pass(10000), RegattaTimes.BAD_VALUE);
        due.is("6: the clock has not changed", x.count(3), 999901);
        due.is("6: up to the last time", x.pass(98), 999999);
        due.is("6: at the last time", x.pass(1), RegattaTimes.TOO_MANY);
    }
}
