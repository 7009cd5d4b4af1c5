/** The boundaries that promises 11 to 14 name: hail, file, accept, decide. */
public final class ProtestsEdgesTest {
    private static final Due due = new Due();
    private static final int HAILED = 0, FILED = 1, ACCEPTED = 2, UPHELD = 3, DISMISSED = 4;

    public static void main(String[] args) {
        bothBoatsSailOrAreFinished();
        hailedByOrAgainstNoBoat();
        hailedAgainstItself();
        hailedWithoutAPreparedRace();
        tenProtests();
        protestsTellWhoAndWhen();
        filedWhenTheHailerIsFinished();
        filedUpToTheLastSecond();
        filedWithOtherLimits();
        onlyHailedOnesAreFiled();
        filingNoProtest();
        onlyHailedOrFiledOnesAreAccepted();
        acceptedByTheOtherBoatUnlessRetired();
        theLeastAndTheGreatestPenalty();
        acceptingNoProtest();
        onlyFiledOnesAreDecided();
        upheldOrDismissed();
        disqualifiedBoatsAreCounted();
        decidingNoProtest();
        untilTheNextRaceIsPrepared();
        due.end();
    }

    /** Boats 0 and 1 wait, 2 and 3 are early, 4 and 5 sail, 6 and 7 are finished, and 8 is retired. */
    private static Story fourKinds() {
        return Story.fleet(Scene.NINE).and(x -> x.prepare(1, 1, 60)).and(x -> x.line(2)).and(x -> x.line(3)).passed(60)
                .and(x -> {
                    for (int boat = 4; boat <= 8; boat++) {
                        x.line(boat);
                    }
                }).and(x -> Scene.finish(x, 6)).and(x -> Scene.finish(x, 7)).and(x -> x.retire(8));
    }

    /** A protest of each kind, by its number: hailed by 0, which is finished, against 1, which sails. */
    private static Story oneOfEachKind() {
        return Story.sailing(100, 100).and(x -> {
            for (int protest = HAILED; protest <= DISMISSED; protest++) {
                x.hail(0, 1);
            }
        }).and(x -> Scene.finish(x, 0)).and(x -> x.file(FILED)).and(x -> x.accept(ACCEPTED))
                .and(x -> x.file(UPHELD)).and(x -> x.decide(UPHELD, true))
                .and(x -> x.file(DISMISSED)).and(x -> x.decide(DISMISSED, false));
    }

    // ---- Promise 11

    /** "A boat that is sailing or finished can hail a protest against another boat that is sailing or finished". */
    private static void bothBoatsSailOrAreFinished() {
        Story s = fourKinds();
        for (int b = 0; b < 9; b++) {
            for (int o = 0; o < 9; o++) {
                int boat = b;
                int other = o;
                boolean isPossible = boat >= 4 && boat <= 7 && other >= 4 && other <= 7;
                if (boat == other) {
                    due.unchanged("11: hail(" + boat + ", " + other + ")", s, x -> x.hail(boat, other),
                            RegattaTimes.BAD_VALUE);
                } else if (isPossible) {
                    due.is("11: hail(" + boat + ", " + other + ")", s, x -> x.hail(boat, other), 0);
                } else {
                    due.unchanged("11: hail(" + boat + ", " + other + ")", s, x -> x.hail(boat, other),
                            RegattaTimes.NOT_POSSIBLE);
                }
            }
        }
    }

    /** "NO_SUCH if there is no such boat". */
    private static void hailedByOrAgainstNoBoat() {
        Story s = Story.sailing(100, 100);
        for (int wrong : Scene.outside(0, 1)) {
            due.unchanged("11: hail(" + wrong + ", 0)", s, x -> x.hail(wrong, 0), RegattaTimes.NO_SUCH);
            due.unchanged("11: hail(0, " + wrong + ")", s, x -> x.hail(0, wrong), RegattaTimes.NO_SUCH);
        }
        due.is("11: the last boat", s, x -> x.hail(1, 0), 0);
        due.is("11: against the last boat", s, x -> x.hail(0, 1), 0);
        due.unchanged("11: no boat at all", new Story(), x -> x.hail(0, 1), RegattaTimes.NO_SUCH);
    }

    /** "BAD_VALUE if both are the same". */
    private static void hailedAgainstItself() {
        due.unchanged("11: hail(0, 0)", Story.sailing(100, 100), x -> x.hail(0, 0), RegattaTimes.BAD_VALUE);
        due.unchanged("11: the only boat", Story.sailing(100), x -> x.hail(0, 0), RegattaTimes.BAD_VALUE);
        due.unchanged("11: hail(8, 8)", Story.sailing(Scene.NINE), x -> x.hail(8, 8), RegattaTimes.BAD_VALUE);
    }

    /** "NOT_POSSIBLE if no race is prepared". */
    private static void hailedWithoutAPreparedRace() {
        Story sailing = Story.sailing(100, 100);
        due.unchanged("11: no race", Story.fleet(100, 100), x -> x.hail(0, 1), RegattaTimes.NOT_POSSIBLE);
        due.unchanged("11: closed", sailing.and(x -> x.close()), x -> x.hail(0, 1), RegattaTimes.NOT_POSSIBLE);
        due.unchanged("11: the next one is not sailed", sailing.and(x -> x.close()).and(x -> x.prepare(1, 1, 60)),
                x -> x.hail(0, 1), RegattaTimes.NOT_POSSIBLE);
    }

    /** "There are at most 10 protests in a race, numbered from 0 in the order in which they were hailed". */
    private static void tenProtests() {
        Story s = Story.sailing(100, 100, 100);
        for (int p = 0; p < 10; p++) {
            int protest = p;
            due.unchanged("11: no protest " + protest + " yet", s, x -> x.protest(protest, 0), RegattaTimes.NO_SUCH);
            due.is("11: the protest " + protest, s, x -> x.hail(protest % 3, (protest + 1) % 3), protest);
            s = s.and(x -> x.hail(protest % 3, (protest + 1) % 3));
            due.is("11: protests then", s, x -> x.count(5), protest + 1);
        }
        for (int p = 0; p < 10; p++) {
            int protest = p;
            due.unchanged("11: the hailer of " + protest, s, x -> x.protest(protest, 0), protest % 3);
            due.unchanged("11: the other one of " + protest, s, x -> x.protest(protest, 1), (protest + 1) % 3);
        }
        due.unchanged("11: an eleventh one", s, x -> x.hail(0, 1), RegattaTimes.TOO_MANY);
        due.unchanged("11: there is no protest 10", s, x -> x.protest(10, 0), RegattaTimes.NO_SUCH);
        Story done = s.and(x -> x.accept(0)).and(x -> Scene.finish(x, 1)).and(x -> x.file(1))
                .and(x -> x.decide(1, false));
        due.unchanged("11: decided ones count, too", done, x -> x.hail(0, 1), RegattaTimes.TOO_MANY);
        due.is("11: with one undone there is room", s.and(x -> x.undo()), x -> x.hail(0, 2), 9);
        due.is("11: and in the next race", s.and(x -> x.close()).and(x -> Scene.start(x)), x -> x.hail(0, 1), 0);
    }

    private static void protestsTellWhoAndWhen() {
        Story s = Story.sailing(100, 100).passed(7).and(x -> x.hail(1, 0)).passed(1).and(x -> x.hail(0, 1));
        due.is("11: the time of the first", s, x -> x.protest(0, 2), 67);
        due.is("11: the time of the second", s, x -> x.protest(1, 2), 68);
        due.is("11: it is hailed", s, x -> x.protest(0, 3), HAILED);
        due.is("11: the boats are as before", s, x -> x.result(0, 0, 3) + x.result(0, 1, 3) + x.race(0, 5), 0);
    }

    // ---- Promise 12

    /** "A hailed protest can be filed when the boat that hailed it is finished". */
    private static void filedWhenTheHailerIsFinished() {
        Story s = Story.sailing(100, 100).and(x -> x.hail(0, 1));
        due.unchanged("12: the hailer sails", s, x -> x.file(0), RegattaTimes.NOT_POSSIBLE);
        due.unchanged("12: the hailer has all roundings", s.and(x -> x.buoy(0, 0)), x -> x.file(0),
                RegattaTimes.NOT_POSSIBLE);
        due.unchanged("12: the hailer is retired", s.and(x -> x.retire(0)), x -> x.file(0),
                RegattaTimes.NOT_POSSIBLE);
        due.unchanged("12: only the other one is finished", s.and(x -> Scene.finish(x, 1)), x -> x.file(0),
                RegattaTimes.NOT_POSSIBLE);
        due.is("12: the hailer is finished", s.and(x -> Scene.finish(x, 0)), x -> x.file(0), 600);
        due.is("12: the other one is retired", s.and(x -> Scene.finish(x, 0)).and(x -> x.retire(1)),
                x -> x.file(0), 600);
    }

    /** "and the clock is at most FILE seconds after its finish"; "Returns the seconds that were left for it". */
    private static void filedUpToTheLastSecond() {
        Story s = Story.sailing(100, 100).and(x -> x.hail(0, 1)).passed(5).and(x -> Scene.finish(x, 0));
        for (int after : new int[] {0, 1, 599, 600}) {
            due.is("12: " + after + " seconds after the finish", s.passed(after), x -> x.file(0), 600 - after);
            due.is("12: it is filed", s.passed(after).and(x -> x.file(0)), x -> x.protest(0, 3), FILED);
        }
        for (int after : new int[] {601, 602, 9999}) {
            due.unchanged("12: " + after + " seconds after the finish", s.passed(after), x -> x.file(0),
                    RegattaTimes.NOT_POSSIBLE);
        }
        Story later = Story.sailing(100, 100).passed(50).and(x -> Scene.finish(x, 0)).passed(30)
                .and(x -> x.hail(0, 1));
        due.is("12: from the finish on, not the hail", later.passed(570), x -> x.file(0), 0);
        due.unchanged("12: a second later", later.passed(571), x -> x.file(0), RegattaTimes.NOT_POSSIBLE);
        Story closed = s.passed(10).and(x -> x.close());
        due.is("12: closed, in the last second", closed.passed(590), x -> x.file(0), 0);
        due.unchanged("12: closed, a second later", closed.passed(591), x -> x.file(0), RegattaTimes.NOT_POSSIBLE);
    }

    /** FILE is "1 to 3600", as it is set when the protest is filed. */
    private static void filedWithOtherLimits() {
        Story s = Story.sailing(100, 100).and(x -> x.hail(0, 1)).and(x -> Scene.finish(x, 0));
        for (int f : new int[] {1, 2, 3599, 3600}) {
            int file = f;
            Story set = s.and(x -> x.set(RegattaTimes.FILE, file));
            due.is("12: FILE " + file + ", at once", set, x -> x.file(0), file);
            due.is("12: FILE " + file + ", the last second", set.passed(file), x -> x.file(0), 0);
            due.unchanged("12: FILE " + file + ", a second later", set.passed(file + 1), x -> x.file(0),
                    RegattaTimes.NOT_POSSIBLE);
        }
        Story longer = s.passed(601).and(x -> x.set(RegattaTimes.FILE, 601));
        due.is("12: FILE made longer in time", longer, x -> x.file(0), 0);
    }

    /** Only "a hailed protest" can be filed. */
    private static void onlyHailedOnesAreFiled() {
        Story s = oneOfEachKind();
        due.is("12: hailed", s, x -> x.file(HAILED), 600);
        for (int kind = FILED; kind <= DISMISSED; kind++) {
            int protest = kind;
            due.is("12: what it is", s, x -> x.protest(protest, 3), protest);
            due.unchanged("12: a protest that is " + protest, s, x -> x.file(protest), RegattaTimes.NOT_POSSIBLE);
        }
    }

    /** "NO_SUCH if there is no such protest". */
    private static void filingNoProtest() {
        Story s = oneOfEachKind();
        for (int protest : Scene.outside(0, 4)) {
            due.unchanged("12: file(" + protest + ")", s, x -> x.file(protest), RegattaTimes.NO_SUCH);
        }
        due.unchanged("12: none is hailed", Story.sailing(100, 100), x -> x.file(0), RegattaTimes.NO_SUCH);
        due.unchanged("12: no race", new Story(), x -> x.file(0), RegattaTimes.NO_SUCH);
        due.is("12: the last of ten", full(), x -> x.file(9), 600);
        due.unchanged("12: an eleventh", full(), x -> x.file(10), RegattaTimes.NO_SUCH);
    }

    /** Ten protests, hailed by 0, which is finished, against 1. */
    private static Story full() {
        return Story.sailing(100, 100).and(x -> {
            for (int protest = 0; protest < 10; protest++) {
                x.hail(0, 1);
            }
        }).and(x -> Scene.finish(x, 0));
    }

    // ---- Promise 13

    /** "A hailed or filed protest can be accepted by the other boat". */
    private static void onlyHailedOrFiledOnesAreAccepted() {
        Story s = oneOfEachKind();
        due.is("13: hailed", s, x -> x.accept(HAILED), 120);
        due.is("13: it is accepted", s.and(x -> x.accept(HAILED)), x -> x.protest(HAILED, 3), ACCEPTED);
        due.is("13: filed", s, x -> x.accept(FILED), 120);
        due.is("13: it is accepted, too", s.and(x -> x.accept(FILED)), x -> x.protest(FILED, 3), ACCEPTED);
        for (int kind = ACCEPTED; kind <= DISMISSED; kind++) {
            int protest = kind;
            due.unchanged("13: a protest that is " + protest, s, x -> x.accept(protest),
                    RegattaTimes.NOT_POSSIBLE);
        }
        due.is("13: a hailed one, too late to be filed", s.passed(9999), x -> x.accept(HAILED), 120);
    }

    /** "as long as this is not retired". */
    private static void acceptedByTheOtherBoatUnlessRetired() {
        Story s = oneOfEachKind();
        Story retired = s.and(x -> x.retire(1));
        due.unchanged("13: retired, hailed", retired, x -> x.accept(HAILED), RegattaTimes.NOT_POSSIBLE);
        due.unchanged("13: retired, filed", retired, x -> x.accept(FILED), RegattaTimes.NOT_POSSIBLE);
        due.unchanged("13: retired, closed", retired.and(x -> x.close()), x -> x.accept(FILED),
                RegattaTimes.NOT_POSSIBLE);
        due.is("13: finished", s.and(x -> Scene.finish(x, 1)), x -> x.accept(HAILED), 120);
        due.is("13: it sails in a closed race", s.and(x -> x.close()), x -> x.accept(HAILED), 120);
        Story hailer = Story.sailing(100, 100).and(x -> x.hail(0, 1)).and(x -> x.retire(0));
        due.is("13: only the hailer is retired", hailer, x -> x.accept(0), 60);
        due.is("13: the penalty is the other boat's", hailer.and(x -> x.accept(0)), x -> x.result(0, 1, 3), 60);
        due.is("13: none for the hailer", hailer.and(x -> x.accept(0)), x -> x.result(0, 0, 3), 0);
    }

    /** "the other boat gets PENALTY seconds more as penalty"; PENALTY is "1 to 300". */
    private static void theLeastAndTheGreatestPenalty() {
        Story s = full();
        for (int p : new int[] {1, 2, 299, 300}) {
            int penalty = p;
            Story set = s.and(x -> x.set(RegattaTimes.PENALTY, penalty));
            for (int n = 0; n < 10; n++) {
                int next = n;
                due.is("13: PENALTY " + penalty, set, x -> x.accept(next), penalty * (next + 1));
                set = set.and(x -> x.accept(next));
                due.is("13: its penalties", set, x -> x.result(0, 1, 3), penalty * (next + 1));
            }
            Story finished = set.and(x -> Scene.finish(x, 1));
            due.is("13: in its elapsed time", finished, x -> x.result(0, 1, 5), 10 * penalty);
            due.is("13: in its corrected time", finished, x -> x.result(0, 1, 6), 10 * penalty);
        }
        Story later = s.and(x -> x.accept(0)).and(x -> x.set(RegattaTimes.PENALTY, 1));
        due.is("13: one that it has stays as it was", later, x -> x.result(0, 1, 3), 60);
    }

    /** "NO_SUCH if there is no such protest". */
    private static void acceptingNoProtest() {
        Story s = oneOfEachKind();
        for (int protest : Scene.outside(0, 4)) {
            due.unchanged("13: accept(" + protest + ")", s, x -> x.accept(protest), RegattaTimes.NO_SUCH);
        }
        due.unchanged("13: none is hailed", Story.sailing(100, 100), x -> x.accept(0), RegattaTimes.NO_SUCH);
        due.unchanged("13: no race", new Story(), x -> x.accept(0), RegattaTimes.NO_SUCH);
        due.unchanged("13: an eleventh", full(), x -> x.accept(10), RegattaTimes.NO_SUCH);
    }

    // ---- Promise 14

    /** "NOT_POSSIBLE if it is not filed". */
    private static void onlyFiledOnesAreDecided() {
        Story s = oneOfEachKind();
        for (int kind = HAILED; kind <= DISMISSED; kind++) {
            int protest = kind;
            if (protest == FILED) {
                due.is("14: filed, upheld", s, x -> x.decide(protest, true), 1);
                due.is("14: filed, dismissed", s, x -> x.decide(protest, false), 1);
            } else {
                due.unchanged("14: a protest that is " + protest, s, x -> x.decide(protest, true),
                        RegattaTimes.NOT_POSSIBLE);
                due.unchanged("14: the same, dismissed", s, x -> x.decide(protest, false),
                        RegattaTimes.NOT_POSSIBLE);
            }
        }
        due.is("14: no limit of time", s.passed(9999), x -> x.decide(FILED, true), 1);
    }

    /** "it is upheld, and the other boat is disqualified in this race, or it is dismissed". */
    private static void upheldOrDismissed() {
        Story s = Story.sailing(100, 100).and(x -> Scene.finish(x, 0)).and(x -> x.close())
                .and(x -> Scene.start(x)).and(x -> x.hail(0, 1)).and(x -> Scene.finish(x, 0)).and(x -> x.file(0));
        Story upheld = s.and(x -> x.decide(0, true));
        Story dismissed = s.and(x -> x.decide(0, false));
        due.is("14: upheld", upheld, x -> x.protest(0, 3), UPHELD);
        due.is("14: the other one is disqualified", upheld, x -> x.result(1, 1, 4), 1);
        due.is("14: it still sails", upheld, x -> x.result(1, 1, 0), 2);
        due.is("14: not the hailer", upheld, x -> x.result(1, 0, 4), 0);
        due.is("14: in this race alone", upheld, x -> x.result(0, 1, 4), 0);
        due.is("14: no penalty", upheld, x -> x.result(1, 1, 3), 0);
        due.is("14: dismissed", dismissed, x -> x.protest(0, 3), DISMISSED);
        due.is("14: none is disqualified", dismissed, x -> x.race(1, 5), 0);
        due.is("14: a retired one is disqualified", s.and(x -> x.retire(1)), x -> x.decide(0, true), 1);
    }

    /** "Returns the number of boats that are disqualified in this race then": none, and up to all nine. */
    private static void disqualifiedBoatsAreCounted() {
        Story s = Story.sailing(Scene.NINE).and(x -> {
            for (int boat = 0; boat < 9; boat++) {
                x.hail((boat + 1) % 9, boat);
            }
            x.hail(0, 8);
            for (int boat = 0; boat < 9; boat++) {
                Scene.finish(x, boat);
            }
            for (int protest = 0; protest < 10; protest++) {
                x.file(protest);
            }
        });
        due.is("14: none", s, x -> x.decide(0, false), 0);
        for (int b = 0; b < 9; b++) {
            int boat = b;
            due.is("14: dismissed, so many before", s, x -> x.decide(boat, false), boat);
            due.is("14: upheld, one more", s, x -> x.decide(boat, true), boat + 1);
            s = s.and(x -> x.decide(boat, true));
            due.is("14: race(0, 5)", s, x -> x.race(0, 5), boat + 1);
        }
        due.is("14: the same boat again", s, x -> x.decide(9, true), 9);
    }

    /** "NO_SUCH if there is no such protest". */
    private static void decidingNoProtest() {
        Story s = oneOfEachKind();
        for (int protest : Scene.outside(0, 4)) {
            due.unchanged("14: decide(" + protest + ", true)", s, x -> x.decide(protest, true),
                    RegattaTimes.NO_SUCH);
        }
        due.unchanged("14: none is hailed", Story.sailing(100, 100), x -> x.decide(0, true), RegattaTimes.NO_SUCH);
        due.unchanged("14: no race", new Story(), x -> x.decide(0, false), RegattaTimes.NO_SUCH);
        due.unchanged("14: an eleventh", full(), x -> x.decide(10, false), RegattaTimes.NO_SUCH);
    }

    /** "Filing, accepting and deciding are possible also when the race is closed, until the next one is prepared." */
    private static void untilTheNextRaceIsPrepared() {
        Story closed = oneOfEachKind().and(x -> x.close());
        due.is("12: closed", closed, x -> x.file(HAILED), 600);
        due.is("13: closed", closed, x -> x.accept(HAILED), 120);
        due.is("14: closed", closed, x -> x.decide(FILED, true), 1);
        Story filed = closed.and(x -> x.file(HAILED));
        due.is("14: filed and decided when closed", filed, x -> x.decide(HAILED, false), 1);
        Story next = closed.and(x -> x.prepare(1, 1, 60));
        due.unchanged("12: the next one is prepared", next, x -> x.file(HAILED), RegattaTimes.NO_SUCH);
        due.unchanged("13: the next one is prepared", next, x -> x.accept(HAILED), RegattaTimes.NO_SUCH);
        due.unchanged("14: the next one is prepared", next, x -> x.decide(FILED, true), RegattaTimes.NO_SUCH);
        Story last = Story.fleet(100, 100).and(x -> {
            for (int race = 0; race < 5; race++) {
                x.prepare(1, 1, 60);
                x.pass(60);
                x.close();
            }
            Scene.start(x);
            x.hail(0, 1);
            Scene.finish(x, 0);
            x.close();
        });
        due.is("12: after the last race", last, x -> x.file(0), 600);
        due.is("14: after the last race", last.and(x -> x.file(0)), x -> x.decide(0, true), 1);
    }
}
