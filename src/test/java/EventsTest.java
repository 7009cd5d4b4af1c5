/** Promises 7 to 10: line, buoy, retire, close. */
public final class EventsTest {
    private static final Due due = new Due();

    public static void main(String[] args) {
        lineBeforeAndAfterTheStart();
        lineToFinish();
        lineWrongly();
        buoy();
        buoyWrongly();
        retire();
        close();
        due.end();
    }

    private static void lineBeforeAndAfterTheStart() {
        RegattaTimes x = Scene.fleet(100, 100, 100);
        x.prepare(1, 1, 60);
        x.pass(59);
        due.is("7: waiting, a second before the start", x.line(0), 1);
        due.is("7: early, a second before the start", x.line(0), 0);
        due.is("7: waiting again", x.line(0), 1);
        due.is("7: it is early", x.result(0, 0, 0), 1);
        x.pass(1);
        due.is("7: early, at the start", x.line(0), 2);
        due.is("7: waiting, at the start", x.line(1), 2);
        due.is("7: the third one is not touched", x.result(0, 2, 0), 0);
        x.pass(1000);
        due.is("7: waiting, long after the start", x.line(2), 2);
    }

    private static void lineToFinish() {
        RegattaTimes x = Scene.fleet(100);
        x.prepare(2, 2, 60);
        x.pass(60);
        x.line(0);
        for (int rounding = 0; rounding < 4; rounding++) {
            due.is("7: roundings are missing", x.line(0), RegattaTimes.NOT_POSSIBLE);
            x.buoy(0, rounding % 2);
        }
        x.pass(40);
        due.is("7: all roundings are made", x.line(0), 3);
        due.is("7: it is finished", x.result(0, 0, 0), 3);
        due.is("7: with the clock as its finish", x.result(0, 0, 5), 40);
        x.pass(5);
        due.is("7: finished already", x.line(0), RegattaTimes.NOT_POSSIBLE);
        due.is("7: the finish stays", x.result(0, 0, 5), 40);
    }

    private static void lineWrongly() {
        RegattaTimes x = Scene.fleet(100, 100);
        due.is("7: no race, no boat", x.line(2), RegattaTimes.NO_SUCH);
        due.is("7: no race", x.line(0), RegattaTimes.NOT_POSSIBLE);
        x.prepare(1, 1, 60);
        due.is("7: line(-1)", x.line(-1), RegattaTimes.NO_SUCH);
        due.is("7: line(2)", x.line(2), RegattaTimes.NO_SUCH);
        due.is("7: line(MIN)", x.line(Integer.MIN_VALUE), RegattaTimes.NO_SUCH);
        x.retire(0);
        due.is("7: retired", x.line(0), RegattaTimes.NOT_POSSIBLE);
        x.pass(60);
        x.close();
        due.is("7: closed", x.line(1), RegattaTimes.NOT_POSSIBLE);
    }

    private static void buoy() {
        RegattaTimes x = Scene.fleet(100);
        x.prepare(3, 2, 60);
        x.pass(60);
        x.line(0);
        due.is("8: not the first buoy", x.buoy(0, 1), 0);
        due.is("8: a mistake", x.result(0, 0, 2), 1);
        int made = 0;
        for (int lap = 0; lap < 2; lap++) {
            for (int buoy = 0; buoy < 3; buoy++) {
                due.is("8: the next buoy", x.buoy(0, buoy), ++made);
                due.is("8: the same buoy again", x.buoy(0, buoy), made);
            }
        }
        due.is("8: all are made", x.buoy(0, 0), 6);
        due.is("8: roundings", x.result(0, 0, 1), 6);
        due.is("8: mistakes", x.result(0, 0, 2), 8);
        due.is("8: nothing else", x.result(0, 0, 0), 2);
    }

    private static void buoyWrongly() {
        RegattaTimes x = Scene.fleet(100, 100);
        due.is("8: no boat, no race", x.buoy(2, 0), RegattaTimes.NO_SUCH);
        due.is("8: no race", x.buoy(0, 0), RegattaTimes.BAD_VALUE);
        x.prepare(2, 1, 60);
        due.is("8: no boat", x.buoy(-1, 9), RegattaTimes.NO_SUCH);
        due.is("8: buoy(0, -1)", x.buoy(0, -1), RegattaTimes.BAD_VALUE);
        due.is("8: buoy(0, 2)", x.buoy(0, 2), RegattaTimes.BAD_VALUE);
        due.is("8: waiting", x.buoy(0, 0), RegattaTimes.NOT_POSSIBLE);
        x.line(0);
        due.is("8: early", x.buoy(0, 1), RegattaTimes.NOT_POSSIBLE);
        x.pass(60);
        x.line(0);
        x.line(1);
        x.buoy(0, 0);
        x.buoy(0, 1);
        x.line(0);
        due.is("8: finished", x.buoy(0, 0), RegattaTimes.NOT_POSSIBLE);
        x.retire(1);
        due.is("8: retired", x.buoy(1, 0), RegattaTimes.NOT_POSSIBLE);
        due.is("8: no mistake is counted", x.result(0, 1, 2), 0);
        x.close();
        due.is("8: closed", x.buoy(0, 0), RegattaTimes.BAD_VALUE);
    }

    private static void retire() {
        RegattaTimes x = Scene.fleet(100, 100, 100, 100);
        due.is("9: no boat, no race", x.retire(4), RegattaTimes.NO_SUCH);
        due.is("9: no race", x.retire(0), RegattaTimes.NOT_POSSIBLE);
        x.prepare(1, 1, 60);
        due.is("9: retire(-1)", x.retire(-1), RegattaTimes.NO_SUCH);
        x.line(1);
        due.is("9: waiting", x.retire(0), 0);
        due.is("9: early", x.retire(1), 1);
        x.pass(60);
        x.line(2);
        x.line(3);
        due.is("9: sailing", x.retire(2), 2);
        due.is("9: it is retired", x.result(0, 2, 0), 4);
        due.is("9: retired", x.retire(2), RegattaTimes.NOT_POSSIBLE);
        Scene.finish(x, 3);
        due.is("9: finished", x.retire(3), RegattaTimes.NOT_POSSIBLE);
        RegattaTimes y = Scene.sailing(100);
        y.close();
        due.is("9: closed", y.retire(0), RegattaTimes.NOT_POSSIBLE);
    }

    private static void close() {
        RegattaTimes x = Scene.fleet(100, 100, 100);
        due.is("10: no race", x.close(), RegattaTimes.NOT_POSSIBLE);
        x.prepare(1, 1, 60);
        x.pass(59);
        due.is("10: before the start", x.close(), RegattaTimes.NOT_POSSIBLE);
        x.pass(1);
        x.line(0);
        x.line(1);
        x.line(2);
        Scene.finish(x, 0);
        Scene.finish(x, 1);
        x.hail(0, 1);
        x.file(0);
        x.decide(0, true);
        due.is("10: finished boats, the disqualified one too", x.close(), 2);
        due.is("10: it is closed", x.race(0, 3), 2);
        due.is("10: a sailing boat stays sailing", x.result(0, 2, 0), 2);
        due.is("10: closed already", x.close(), RegattaTimes.NOT_POSSIBLE);
        RegattaTimes y = Scene.fleet(100);
        y.prepare(1, 1, 60);
        y.pass(60);
        due.is("10: at the start", y.close(), 0);
    }
}
