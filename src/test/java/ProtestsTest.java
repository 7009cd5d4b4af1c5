/** Promises 11 to 14: hail, file, accept, decide. */
public final class ProtestsTest {
    private static final Due due = new Due();

    public static void main(String[] args) {
        hail();
        hailWrongly();
        file();
        fileWrongly();
        accept();
        acceptWrongly();
        decide();
        afterTheClose();
        due.end();
    }

    private static void hail() {
        RegattaTimes x = Scene.sailing(100, 100, 100);
        due.is("11: both sail", x.hail(0, 1), 0);
        Scene.finish(x, 1);
        x.pass(1);
        due.is("11: the other one is finished", x.hail(2, 1), 1);
        due.is("11: the hailer is finished", x.hail(1, 2), 2);
        due.is("11: hailer", x.protest(1, 0), 2);
        due.is("11: other", x.protest(1, 1), 1);
        due.is("11: time", x.protest(1, 2), 61);
        due.is("11: hailed", x.protest(1, 3), 0);
        for (int protest = 3; protest < 10; protest++) {
            due.is("11: the same protest again", x.hail(0, 1), protest);
        }
        due.is("11: an eleventh one", x.hail(0, 1), RegattaTimes.TOO_MANY);
        due.is("11: ten protests", x.count(5), 10);
        x.retire(0);
        due.is("11: retired, ahead of no room", x.hail(0, 1), RegattaTimes.NOT_POSSIBLE);
    }

    private static void hailWrongly() {
        RegattaTimes x = Scene.fleet(100, 100, 100);
        due.is("11: no race, no boat", x.hail(3, 3), RegattaTimes.NO_SUCH);
        due.is("11: no race, the same boat", x.hail(1, 1), RegattaTimes.BAD_VALUE);
        due.is("11: no race", x.hail(0, 1), RegattaTimes.NOT_POSSIBLE);
        x.prepare(1, 1, 60);
        x.line(0);
        due.is("11: hail(-1, 0)", x.hail(-1, 0), RegattaTimes.NO_SUCH);
        due.is("11: hail(0, 3)", x.hail(0, 3), RegattaTimes.NO_SUCH);
        due.is("11: an early hailer, a waiting boat", x.hail(0, 1), RegattaTimes.NOT_POSSIBLE);
        x.pass(60);
        x.line(0);
        due.is("11: the other one is waiting", x.hail(0, 1), RegattaTimes.NOT_POSSIBLE);
        due.is("11: the hailer is waiting", x.hail(1, 0), RegattaTimes.NOT_POSSIBLE);
        x.line(1);
        x.retire(1);
        due.is("11: the other one is retired", x.hail(0, 1), RegattaTimes.NOT_POSSIBLE);
        due.is("11: the hailer is retired", x.hail(1, 0), RegattaTimes.NOT_POSSIBLE);
        x.line(2);
        x.close();
        due.is("11: closed", x.hail(0, 2), RegattaTimes.NOT_POSSIBLE);
    }

    private static void file() {
        RegattaTimes x = Scene.sailing(100, 100);
        x.hail(0, 1);
        x.hail(0, 1);
        x.hail(0, 1);
        due.is("12: the hailer sails", x.file(0), RegattaTimes.NOT_POSSIBLE);
        x.pass(30);
        Scene.finish(x, 0);
        due.is("12: at its finish", x.file(0), 600);
        due.is("12: filed", x.protest(0, 3), 1);
        due.is("12: filed already", x.file(0), RegattaTimes.NOT_POSSIBLE);
        x.set(RegattaTimes.FILE, 50);
        x.pass(50);
        due.is("12: in the last second", x.file(1), 0);
        x.pass(1);
        due.is("12: a second too late", x.file(2), RegattaTimes.NOT_POSSIBLE);
        due.is("12: still hailed", x.protest(2, 3), 0);
        x.set(RegattaTimes.FILE, 52);
        due.is("12: with more time", x.file(2), 1);
    }

    private static void fileWrongly() {
        RegattaTimes x = Scene.sailing(100, 100);
        due.is("12: no protest", x.file(0), RegattaTimes.NO_SUCH);
        x.hail(0, 1);
        x.hail(1, 0);
        due.is("12: file(-1)", x.file(-1), RegattaTimes.NO_SUCH);
        due.is("12: file(2)", x.file(2), RegattaTimes.NO_SUCH);
        Scene.finish(x, 1);
        due.is("12: only the other one is finished", x.file(0), RegattaTimes.NOT_POSSIBLE);
        x.accept(1);
        due.is("12: accepted", x.file(1), RegattaTimes.NOT_POSSIBLE);
        x.retire(0);
        due.is("12: the hailer is retired", x.file(0), RegattaTimes.NOT_POSSIBLE);
    }

    private static void accept() {
        RegattaTimes x = Scene.sailing(100, 100);
        x.hail(0, 1);
        x.hail(0, 1);
        due.is("13: hailed", x.accept(0), 60);
        due.is("13: accepted", x.protest(0, 3), 2);
        due.is("13: accepted already", x.accept(0), RegattaTimes.NOT_POSSIBLE);
        Scene.finish(x, 0);
        x.file(1);
        x.set(RegattaTimes.PENALTY, 7);
        due.is("13: filed", x.accept(1), 67);
        due.is("13: its penalties", x.result(0, 1, 3), 67);
        due.is("13: none for the hailer", x.result(0, 0, 3), 0);
        Scene.finish(x, 1);
        due.is("13: in its elapsed time", x.result(0, 1, 5), 67);
        x.hail(0, 1);
        due.is("13: a finished boat accepts", x.accept(2), 74);
        due.is("13: in its elapsed time, too", x.result(0, 1, 5), 74);
    }

    private static void acceptWrongly() {
        RegattaTimes x = Scene.sailing(100, 100);
        due.is("13: no protest", x.accept(0), RegattaTimes.NO_SUCH);
        x.hail(0, 1);
        x.hail(1, 0);
        due.is("13: accept(-1)", x.accept(-1), RegattaTimes.NO_SUCH);
        due.is("13: accept(2)", x.accept(2), RegattaTimes.NO_SUCH);
        Scene.finish(x, 0);
        x.file(0);
        x.retire(1);
        due.is("13: the other one is retired", x.accept(0), RegattaTimes.NOT_POSSIBLE);
        due.is("13: the hailer may be retired", x.accept(1), 60);
        x.decide(0, false);
        due.is("13: dismissed", x.accept(0), RegattaTimes.NOT_POSSIBLE);
    }

    private static void decide() {
        RegattaTimes x = Scene.sailing(100, 100, 100);
        due.is("14: no protest", x.decide(0, true), RegattaTimes.NO_SUCH);
        x.hail(0, 1);
        x.hail(0, 1);
        x.hail(0, 2);
        x.hail(0, 2);
        due.is("14: decide(-1, true)", x.decide(-1, true), RegattaTimes.NO_SUCH);
        due.is("14: decide(4, true)", x.decide(4, true), RegattaTimes.NO_SUCH);
        due.is("14: hailed", x.decide(0, true), RegattaTimes.NOT_POSSIBLE);
        x.accept(3);
        due.is("14: accepted", x.decide(3, true), RegattaTimes.NOT_POSSIBLE);
        Scene.finish(x, 0);
        x.file(0);
        x.file(1);
        x.file(2);
        due.is("14: dismissed", x.decide(0, false), 0);
        due.is("14: it is dismissed", x.protest(0, 3), 4);
        due.is("14: not disqualified", x.result(0, 1, 4), 0);
        due.is("14: dismissed already", x.decide(0, true), RegattaTimes.NOT_POSSIBLE);
        due.is("14: upheld", x.decide(1, true), 1);
        due.is("14: it is upheld", x.protest(1, 3), 3);
        due.is("14: the other one is disqualified", x.result(0, 1, 4), 1);
        due.is("14: the hailer is not", x.result(0, 0, 4), 0);
        due.is("14: upheld already", x.decide(1, false), RegattaTimes.NOT_POSSIBLE);
        due.is("14: one more", x.decide(2, true), 2);
        Scene.finish(x, 1);
        x.hail(1, 2);
        x.file(4);
        due.is("14: against the same boat", x.decide(4, true), 2);
        x.hail(1, 0);
        x.file(5);
        due.is("14: dismissed, two are disqualified", x.decide(5, false), 2);
    }

    private static void afterTheClose() {
        RegattaTimes x = Scene.sailing(100, 100);
        x.hail(0, 1);
        x.hail(0, 1);
        Scene.finish(x, 0);
        Scene.finish(x, 1);
        x.close();
        due.is("12: when closed", x.file(0), 600);
        due.is("14: when closed", x.decide(0, true), 1);
        due.is("13: when closed", x.accept(1), 60);
        due.is("13: penalties when closed", x.result(0, 1, 5), 60);
        x.prepare(1, 1, 60);
        due.is("12: the next race", x.file(0), RegattaTimes.NO_SUCH);
        due.is("13: the next race", x.accept(0), RegattaTimes.NO_SUCH);
        due.is("14: the next race", x.decide(0, true), RegattaTimes.NO_SUCH);
    }
}
