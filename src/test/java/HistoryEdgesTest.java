import java.util.ArrayList;
import java.util.LinkedHashMap;
import java.util.List;
import java.util.Map;

/** The boundaries that promises 20 to 22 name: undo, save, restore; and those of the history. */
public final class HistoryEdgesTest {
    private static final Due due = new Due();

    public static void main(String[] args) {
        undoingAnEmptyHistory();
        undoingUpToFourStates();
        theFifthStateDropsTheOldest();
        recordingAfterAnUndo();
        eachActionRecordsTheStateBefore();
        actionsThatChangeNothingAreRecorded();
        errorsAreNotRecordedInAFullHistory();
        queriesAreNotRecorded();
        undoLeavesTextAndSnapshot();
        savingIsNotAnAction();
        savingReplacesTheSnapshot();
        restoringWithoutASnapshot();
        theSnapshotRemains();
        restoringIsAnAction();
        restoringLeavesTextAndHistory();
        theSnapshotHoldsTheWholeState();
        due.end();
    }

    /** So many seconds passed, one by one. */
    private static Story ticks(int seconds) {
        return new Story().and(x -> {
            for (int i = 0; i < seconds; i++) {
                x.pass(1);
            }
        });
    }

    // ---- Promise 20

    /** "NONE if the history is empty". */
    private static void undoingAnEmptyHistory() {
        due.unchanged("20: a new object", new Story(), x -> x.undo(), RegattaTimes.NONE);
        Story undone = ticks(1).and(x -> x.undo());
        due.unchanged("20: all is undone", undone, x -> x.undo(), RegattaTimes.NONE);
        Story more = ticks(6).and(x -> {
            for (int i = 0; i < 4; i++) {
                x.undo();
            }
        });
        due.unchanged("20: all four are undone", more, x -> x.undo(), RegattaTimes.NONE);
        due.is("20: the clock stays", more.and(x -> x.undo()), x -> x.count(3), 2);
        due.unchanged("20: a fleet, a text, a snapshot", Story.sailing(100, 100).forgotten().written("+1")
                .and(x -> x.save()), x -> x.undo(), RegattaTimes.NONE);
    }

    /** "Returns the number of states that are left in the history". */
    private static void undoingUpToFourStates() {
        for (int s = 1; s <= 4; s++) {
            int states = s;
            Story ticks = ticks(states);
            due.is("20: states", ticks, x -> x.count(9), states);
            for (int left = states - 1; left >= 0; left--) {
                due.is("20: left of " + states, ticks, x -> x.undo(), left);
                ticks = ticks.and(x -> x.undo());
                due.is("20: the clock", ticks, x -> x.count(3), left);
                due.is("20: states left", ticks, x -> x.count(9), left);
            }
        }
    }

    /** "The history holds at most 4 states; when a fifth state is recorded, the oldest one is dropped." */
    private static void theFifthStateDropsTheOldest() {
        for (int n : new int[] {5, 6, 7, 8, 9, 10, 11, 100}) {
            Story ticks = ticks(n);
            due.is("20: states of " + n, ticks, x -> x.count(9), 4);
            for (int left = 3; left >= 0; left--) {
                due.is("20: left of " + n, ticks, x -> x.undo(), left);
                ticks = ticks.and(x -> x.undo());
                due.is("20: the clock", ticks, x -> x.count(3), n - 4 + left);
            }
            due.unchanged("20: none is left of " + n, ticks, x -> x.undo(), RegattaTimes.NONE);
        }
    }

    /** "Restores the latest state of the history and removes it from the history". */
    private static void recordingAfterAnUndo() {
        Story s = ticks(3).and(x -> x.undo()).and(x -> x.pass(10));
        due.is("20: states", s, x -> x.count(9), 3);
        due.is("20: the state before the last", s.and(x -> x.undo()), x -> x.count(3), 2);
        due.is("20: and the one before that", s.and(x -> x.undo()).and(x -> x.undo()), x -> x.count(3), 1);
        Story full = ticks(9).and(x -> x.undo()).and(x -> x.undo()).and(x -> x.pass(10)).and(x -> x.pass(10))
                .and(x -> x.pass(10));
        due.is("20: full again", full, x -> x.count(9), 4);
        int[] clocks = {27, 17, 7, 6};
        for (int clock : clocks) {
            full = full.and(x -> x.undo());
            due.is("20: the clock", full, x -> x.count(3), clock);
        }
        due.unchanged("20: the oldest one was dropped", full, x -> x.undo(), RegattaTimes.NONE);
    }

    /** All protests are hailed by 0, which is finished, against 1, which sails; the first three are filed. */
    private static Story race() {
        return Story.sailing(100, 100).and(x -> {
            for (int protest = 0; protest < 5; protest++) {
                x.hail(0, 1);
            }
            Scene.finish(x, 0);
            for (int protest = 0; protest < 3; protest++) {
                x.file(protest);
            }
        });
    }

    private static Map<Story.Call, Story> actions() {
        Story race = race().forgotten();
        Story fleet = Story.fleet(100, 100).forgotten();
        Map<Story.Call, Story> actions = new LinkedHashMap<>();
        actions.put(x -> x.enter(100), fleet);
        actions.put(x -> x.prepare(1, 1, 60), fleet);
        actions.put(x -> x.postpone(1), fleet.and(x -> x.prepare(1, 1, 60)).forgotten());
        actions.put(x -> x.recall(), race);
        actions.put(x -> x.pass(1), race);
        actions.put(x -> x.line(0), fleet.and(x -> x.prepare(1, 1, 60)).forgotten());
        actions.put(x -> x.buoy(1, 0), race);
        actions.put(x -> x.retire(1), race);
        actions.put(x -> x.close(), race);
        actions.put(x -> x.hail(0, 1), race);
        actions.put(x -> x.file(3), race);
        actions.put(x -> x.accept(4), race);
        actions.put(x -> x.decide(0, true), race);
        actions.put(x -> x.decide(1, false), race);
        actions.put(x -> x.set(RegattaTimes.PENALTY, 9), race);
        actions.put(x -> x.run(), race.written("+5;b10;l1"));
        actions.put(x -> x.restore(), race.and(x -> x.save()).passed(9).forgotten()
                .and(x -> x.save()).passed(1));
        return actions;
    }

    /** "The actions are enter .. and restore"; "records the state before it in the history". */
    private static void eachActionRecordsTheStateBefore() {
        int number = 0;
        for (Map.Entry<Story.Call, Story> action : actions().entrySet()) {
            // One action more, so that nothing that was undone could pass for the state before it.
            Story before = action.getValue().and(x -> x.set(RegattaTimes.FILE, 599));
            Story after = before.and(x -> action.getKey().on(x));
            String name = "20: action " + number++;
            int states = (int) before.answer(x -> x.count(9));
            due.holds(name + " is no error", before.answer(action.getKey()) >= 0);
            due.is(name + " is recorded", after, x -> x.count(9), states + 1);
            due.is(name + " is undone", after, x -> x.undo(), states);
            due.holds(name + " changes something", !after.picture().equals(before.picture()));
            due.holds(name + ", all is as before", after.and(x -> x.undo()).all().equals(before.all()));
        }
    }

    /** "even if the action changes nothing". */
    private static void actionsThatChangeNothingAreRecorded() {
        Story s = race().forgotten();
        List<Story> same = new ArrayList<>();
        same.add(s.and(x -> x.set(RegattaTimes.FILE, 600)));
        same.add(s.and(x -> x.set(RegattaTimes.PENALTY, 60)));
        same.add(s.and(x -> x.set(RegattaTimes.DISCARD, 4)));
        same.add(s.and(x -> x.save()).and(x -> x.restore()));
        same.add(s.written("l8").and(x -> x.run()));
        for (int i = 0; i < same.size(); i++) {
            due.is("20: nothing is changed by " + i, same.get(i), x -> x.count(9), 1);
            due.is("20: it is undone, " + i, same.get(i), x -> x.undo(), 0);
        }
    }

    /** "A method that returns an error code changes nothing": not even the oldest of four states. */
    private static void errorsAreNotRecordedInAFullHistory() {
        Story s = race().written("x");
        due.is("20: the history is full", s, x -> x.count(9), 4);
        due.unchanged("20: enter", s, x -> x.enter(100), RegattaTimes.NOT_POSSIBLE);
        due.unchanged("20: prepare", s, x -> x.prepare(1, 1, 60), RegattaTimes.NOT_POSSIBLE);
        due.unchanged("20: postpone", s, x -> x.postpone(1), RegattaTimes.NOT_POSSIBLE);
        due.unchanged("20: recall", s.passed(61), x -> x.recall(), RegattaTimes.NOT_POSSIBLE);
        due.unchanged("20: pass", s, x -> x.pass(0), RegattaTimes.BAD_VALUE);
        due.unchanged("20: line", s, x -> x.line(0), RegattaTimes.NOT_POSSIBLE);
        due.unchanged("20: buoy", s, x -> x.buoy(0, 0), RegattaTimes.NOT_POSSIBLE);
        due.unchanged("20: retire", s, x -> x.retire(0), RegattaTimes.NOT_POSSIBLE);
        due.unchanged("20: close", s.and(x -> x.close()), x -> x.close(), RegattaTimes.NOT_POSSIBLE);
        due.unchanged("20: hail", s, x -> x.hail(0, 0), RegattaTimes.BAD_VALUE);
        due.unchanged("20: file", s, x -> x.file(0), RegattaTimes.NOT_POSSIBLE);
        due.unchanged("20: accept", s.and(x -> x.retire(1)), x -> x.accept(0), RegattaTimes.NOT_POSSIBLE);
        due.unchanged("20: decide", s, x -> x.decide(4, true), RegattaTimes.NOT_POSSIBLE);
        due.unchanged("20: set", s, x -> x.set(3, 1), RegattaTimes.NO_SUCH);
        due.unchanged("20: run", s, x -> x.run(), -100);
        due.unchanged("20: restore", s, x -> x.restore(), RegattaTimes.NOT_POSSIBLE);
    }

    /** "queries; they change nothing"; "what would be; nothing is changed". */
    private static void queriesAreNotRecorded() {
        Story s = race().and(x -> Scene.finish(x, 1)).and(x -> x.close()).and(x -> Scene.start(x)).written("+1");
        due.unchanged("20: fault", s, x -> x.fault(), RegattaTimes.NONE);
        due.unchanged("23: result", s, x -> x.result(0, 0, 8), 1);
        due.unchanged("24: boat", s, x -> x.boat(1, 1), 1);
        due.unchanged("25: ranked", s, x -> x.ranked(2), 1);
        due.unchanged("26: race", s, x -> x.race(0, 6), 0);
        due.unchanged("27: protest", race(), x -> x.protest(0, 3), 1);
        due.unchanged("28: count", s, x -> x.count(9), 4);
        due.unchanged("29: placeNow", s.and(x -> Scene.finish(x, 0)), x -> x.placeNow(0), 1);
        due.unchanged("30: secondsLeft", s.passed(5).and(x -> Scene.finish(x, 0)), x -> x.secondsLeft(1),
                RegattaTimes.NONE);
        due.unchanged("31: rankIfDisqualified", s, x -> x.rankIfDisqualified(0, 0), 2);
        due.unchanged("32: mean", s, x -> x.mean(0), 1);
    }

    /** "The text and the snapshot do not change." */
    private static void undoLeavesTextAndSnapshot() {
        Story s = ticks(3).and(x -> x.save()).and(x -> x.pass(5)).written("+9").and(x -> x.undo());
        due.is("20: the text", s, x -> x.count(10), 2);
        due.is("20: it is the same", s.and(x -> x.run()), x -> x.count(3), 12);
        due.is("20: the snapshot", s.and(x -> x.undo()).and(x -> x.undo()), x -> x.restore(), 3);
        Story none = ticks(1).and(x -> x.undo());
        due.unchanged("20: there is still no snapshot", none, x -> x.restore(), RegattaTimes.NOT_POSSIBLE);
    }

    // ---- Promise 21

    /** "This is not an action."; "Returns the clock." */
    private static void savingIsNotAnAction() {
        due.is("21: at first", new Story(), x -> x.save(), 0);
        due.is("21: an empty history", new Story().and(x -> x.save()), x -> x.count(9), 0);
        Story s = ticks(6);
        due.is("21: the clock", s, x -> x.save(), 6);
        due.is("21: a full history", s.and(x -> x.save()), x -> x.count(9), 4);
        due.is("21: undo after it", s.and(x -> x.save()).and(x -> x.undo()), x -> x.count(3), 5);
        due.is("21: in the last second", new Story().passed(999999), x -> x.save(), 999999);
        due.holds("21: the state is not changed", race().and(x -> x.save()).picture().equals(race().picture()));
    }

    /** "which replaces the previous snapshot". */
    private static void savingReplacesTheSnapshot() {
        Story s = ticks(1).and(x -> x.save()).and(x -> x.pass(1));
        due.is("21: the first snapshot", s, x -> x.restore(), 1);
        due.is("21: the second snapshot", s.and(x -> x.save()).and(x -> x.pass(1)), x -> x.restore(), 2);
        due.is("21: an earlier state as the third", s.and(x -> x.undo()).and(x -> x.undo()).and(x -> x.save())
                .and(x -> x.pass(7)), x -> x.restore(), 0);
    }

    // ---- Promise 22

    /** "NOT_POSSIBLE if there is no snapshot". */
    private static void restoringWithoutASnapshot() {
        due.unchanged("22: a new object", new Story(), x -> x.restore(), RegattaTimes.NOT_POSSIBLE);
        due.unchanged("22: with a history", race(), x -> x.restore(), RegattaTimes.NOT_POSSIBLE);
        due.is("22: a snapshot of the empty series", new Story().and(x -> x.save()).and(x -> x.enter(100)),
                x -> x.restore(), 0);
    }

    /** "The snapshot remains." */
    private static void theSnapshotRemains() {
        Story s = race().and(x -> x.save()).and(x -> x.retire(1)).passed(9);
        due.is("22: the clock", s, x -> x.restore(), 60);
        for (int i = 0; i < 6; i++) {
            s = s.and(x -> x.restore());
            due.holds("22: as it was saved", s.and(x -> x.undo()).and(x -> x.restore()).picture()
                    .equals(s.picture()));
            due.is("22: the boat sails", s, x -> x.result(0, 1, 0), 2);
            s = s.and(x -> x.buoy(1, 0)).and(x -> x.line(1)).passed(1);
            due.is("22: once more", s, x -> x.restore(), 60);
        }
    }

    /** restore is one of "the actions". */
    private static void restoringIsAnAction() {
        Story s = new Story().and(x -> x.save()).and(x -> x.pass(5));
        due.is("22: recorded", s.and(x -> x.restore()), x -> x.count(9), 2);
        due.is("22: undone", s.and(x -> x.restore()).and(x -> x.undo()), x -> x.count(3), 5);
        Story full = ticks(4).and(x -> x.save()).and(x -> x.pass(5)).and(x -> x.restore());
        due.is("22: the history is full", full, x -> x.count(9), 4);
        due.is("22: the oldest one is dropped", full.and(x -> x.undo()).and(x -> x.undo()).and(x -> x.undo())
                .and(x -> x.undo()), x -> x.count(3), 2);
    }

    /** "The state consists of all but the text, the snapshot and the history itself." */
    private static void restoringLeavesTextAndHistory() {
        Story s = ticks(2).written("+1").and(x -> x.save()).and(x -> x.pass(5)).and(x -> x.append('2'));
        Story restored = s.and(x -> x.restore());
        due.is("22: the text", restored, x -> x.count(10), 3);
        due.is("22: it is the same", restored.and(x -> x.run()), x -> x.count(3), 14);
        due.is("22: the history goes on", restored, x -> x.count(9), 4);
        due.is("22: and holds what it held", restored.and(x -> x.undo()).and(x -> x.undo()), x -> x.count(3), 2);
    }

    private static void theSnapshotHoldsTheWholeState() {
        Story before = race().and(x -> Scene.finish(x, 1)).and(x -> x.close()).and(x -> Scene.start(x))
                .and(x -> x.hail(1, 0)).and(x -> x.set(0, 7)).and(x -> x.set(1, 8)).and(x -> x.set(2, 1));
        Story after = before.and(x -> x.save()).and(x -> x.accept(0)).and(x -> x.retire(0))
                .and(x -> x.buoy(1, 0)).and(x -> x.hail(1, 0)).passed(5).and(x -> x.close())
                .and(x -> x.prepare(5, 3, 99)).and(x -> x.set(0, 70)).and(x -> x.set(1, 80)).and(x -> x.set(2, 2))
                .and(x -> x.restore());
        due.holds("22: all is as it was saved", after.picture().equals(before.picture()));
        Story fleet = Story.fleet(100, 90).and(x -> x.save()).and(x -> x.undo()).and(x -> x.undo())
                .and(x -> x.enter(50)).and(x -> x.restore());
        due.is("22: the boats", fleet, x -> x.count(0), 2);
        due.is("22: their ratings", fleet, x -> x.boat(0, 0), 100);
    }
}
