/** Promises 20 to 22: undo, save, restore; and what the history records. */
public final class HistoryTest {
    private static final Due due = new Due();

    public static void main(String[] args) {
        undo();
        atMostFourStates();
        everyActionIsRecorded();
        errorsAreNotRecorded();
        otherCallsAreNotRecorded();
        undoBringsAllBack();
        undoKeepsTextAndSnapshot();
        saveAndRestore();
        due.end();
    }

    private static void undo() {
        RegattaTimes x = new RegattaTimes();
        due.is("20: empty", x.undo(), RegattaTimes.NONE);
        x.enter(100);
        x.enter(90);
        due.is("20: two states", x.count(9), 2);
        due.is("20: one is left", x.undo(), 1);
        due.is("20: one boat", x.count(0), 1);
        due.is("20: its rating", x.boat(0, 0), 100);
        due.is("20: none is left", x.undo(), 0);
        due.is("20: no boat", x.count(0), 0);
        due.is("20: empty again", x.undo(), RegattaTimes.NONE);
    }

    private static void atMostFourStates() {
        RegattaTimes x = new RegattaTimes();
        for (int i = 1; i <= 7; i++) {
            x.pass(1);
            due.is("20: states", x.count(9), Math.min(i, 4));
        }
        for (int left = 3; left >= 0; left--) {
            due.is("20: undo()", x.undo(), left);
            due.is("20: the clock", x.count(3), 3 + left);
        }
        due.is("20: the oldest ones are dropped", x.undo(), RegattaTimes.NONE);
        due.is("20: the clock stays", x.count(3), 3);
        for (int i = 1; i <= 6; i++) {
            x.pass(10);
            x.undo();
            x.pass(1);
            due.is("20: states again", x.count(9), Math.min(i, 4));
        }
    }

    /** The picture is told before the action is. */
    private static void recorded(String action, RegattaTimes x, String picture, long answer) {
        due.holds(action + " answers " + answer + ", no error", answer >= 0);
        due.is("20: after " + action, x.count(9), 1);
        due.is("20: undo " + action, x.undo(), 0);
        due.holds("20: all is as before " + action, Scene.picture(x).equals(picture));
    }

    private static void everyActionIsRecorded() {
        RegattaTimes x = prepared();
        recorded("pass", x, Scene.picture(x), x.pass(60));
        recorded("postpone", x, Scene.picture(x), x.postpone(1));
        recorded("line", x, Scene.picture(x), x.line(0));
        recorded("retire", x, Scene.picture(x), x.retire(1));
        x = started();
        recorded("recall", x, Scene.picture(x), x.recall());
        recorded("close", x, Scene.picture(x), x.close());
        recorded("buoy", x, Scene.picture(x), x.buoy(0, 0));
        recorded("hail", x, Scene.picture(x), x.hail(0, 1));
        x = started();
        recorded("file", x, Scene.picture(x), x.file(1));
        recorded("accept", x, Scene.picture(x), x.accept(0));
        recorded("decide", x, Scene.picture(x), x.decide(2, true));
        recorded("set", x, Scene.picture(x), x.set(RegattaTimes.PENALTY, 1));
        x = started();
        Scene.write(x, "+5;b00;r0;l0");
        recorded("run", x, Scene.picture(x), x.run());
        x.save();
        recorded("restore", x, Scene.picture(x), x.restore());
        x = new RegattaTimes();
        recorded("enter", x, Scene.picture(x), x.enter(100));
        recorded("set to the same", x, Scene.picture(x), x.set(RegattaTimes.FILE, 600));
        recorded("set to 0", x, Scene.picture(x), x.set(RegattaTimes.DISCARD, 0));
        x = withoutHistory(Scene.fleet(100, 100));
        recorded("prepare", x, Scene.picture(x), x.prepare(1, 1, 60));
    }

    /** The same state with an empty history: what is recorded after a save leads back to it. */
    private static RegattaTimes withoutHistory(RegattaTimes scene) {
        scene.save();
        for (int i = 0; i < 4; i++) {
            scene.restore();
        }
        while (scene.count(9) > 0) {
            scene.undo();
        }
        return scene;
    }

    private static RegattaTimes prepared() {
        RegattaTimes x = Scene.fleet(100, 100);
        x.prepare(1, 1, 60);
        return withoutHistory(x);
    }

    /** Boat 0 sails, 1 is finished; the protests are hailed by 0, hailed by 1, and filed by 1. */
    private static RegattaTimes started() {
        RegattaTimes x = Scene.sailing(100, 100);
        x.hail(0, 1);
        x.hail(1, 0);
        x.hail(1, 0);
        Scene.finish(x, 1);
        x.file(2);
        return withoutHistory(x);
    }

    private static void errorsAreNotRecorded() {
        RegattaTimes x = new RegattaTimes();
        x.enter(1);
        x.prepare(1, 1, 60);
        x.postpone(1);
        x.recall();
        x.pass(0);
        x.line(0);
        x.buoy(0, 0);
        x.retire(0);
        x.close();
        x.hail(0, 1);
        x.file(0);
        x.accept(0);
        x.decide(0, true);
        x.set(0, 0);
        x.run();
        x.restore();
        due.is("20: errors are not recorded", x.count(9), 0);
        for (int i = 0; i < 4; i++) {
            x.pass(1);
        }
        x.pass(0);
        x.restore();
        x.undo();
        x.pass(0);
        x.undo();
        x.undo();
        due.is("20: an error leaves the states", x.count(3), 1);
        x.pass(0);
        due.is("20: the oldest one, too", x.undo(), 0);
        due.is("20: it is the first one", x.count(3), 0);
    }

    private static void otherCallsAreNotRecorded() {
        RegattaTimes x = started();
        x.append('l');
        x.fault();
        x.clearText();
        x.undo();
        x.save();
        x.result(0, 0, 0);
        x.boat(0, 2);
        x.ranked(1);
        x.race(0, 6);
        x.protest(0, 0);
        x.placeNow(1);
        x.secondsLeft(0);
        x.rankIfDisqualified(0, 0);
        x.mean(0);
        due.is("20: not an action", x.count(9), 0);
    }

    private static void undoBringsAllBack() {
        RegattaTimes x = started();
        x.accept(0);
        x.undo();
        due.is("20: the protest", x.protest(0, 3), 0);
        due.is("20: the penalties", x.result(0, 1, 3), 0);
        x.decide(2, true);
        x.undo();
        due.is("20: the disqualification", x.result(0, 0, 4), 0);
        due.is("20: the decision", x.protest(2, 3), 1);
        x.recall();
        x.undo();
        due.is("20: the start", x.race(0, 2), 60);
        due.is("20: the finished boat", x.result(0, 1, 0), 3);
        due.is("20: its time", x.result(0, 1, 5), 0);
        due.is("20: the protests", x.count(5), 3);
        x.close();
        x.undo();
        due.is("20: the race", x.race(0, 3), 1);
        x.set(1, 1);
        x.undo();
        due.is("20: the setting", x.count(7), 60);
        x.buoy(0, 0);
        x.undo();
        due.is("20: the rounding", x.result(0, 0, 1), 0);
    }

    private static void undoKeepsTextAndSnapshot() {
        RegattaTimes x = new RegattaTimes();
        x.pass(1);
        x.save();
        x.pass(2);
        x.append('l');
        x.undo();
        due.is("20: the text stays", x.count(10), 1);
        x.undo();
        due.is("20: the snapshot stays", x.restore(), 1);
    }

    private static void saveAndRestore() {
        RegattaTimes x = new RegattaTimes();
        due.is("22: no snapshot", x.restore(), RegattaTimes.NOT_POSSIBLE);
        x.pass(5);
        due.is("21: save()", x.save(), 5);
        due.is("21: not an action", x.count(9), 1);
        x.enter(100);
        x.set(2, 1);
        x.pass(5);
        x.append('r');
        due.is("22: restore()", x.restore(), 5);
        due.is("22: no boat", x.count(0), 0);
        due.is("22: the setting", x.count(8), 4);
        due.is("22: the clock", x.count(3), 5);
        due.is("22: the text stays", x.count(10), 1);
        due.is("22: an action", x.count(9), 4);
        due.is("22: undo()", x.undo(), 3);
        due.is("22: the state before it", x.count(3), 10);
        due.is("22: its boat", x.count(0), 1);
        due.is("22: the snapshot remains", x.restore(), 5);
        due.is("22: and remains", x.restore(), 5);
        x.pass(1);
        due.is("21: another snapshot", x.save(), 6);
        x.pass(1);
        due.is("21: replaces the one before", x.restore(), 6);
    }
}
