/**
 * The timekeepers of a regatta: they enter boats, prepare and close races, take down who crosses
 * the line and who rounds the buoys, hear protests, count points, and read events from a text.
 */
public final class RegattaTimes {
    public static final int NO_SUCH = -1;
    public static final int BAD_VALUE = -2;
    public static final int TOO_MANY = -3;
    public static final int NOT_POSSIBLE = -4;
    public static final int NONE = -5;
    public static final int FILE = 0, PENALTY = 1, DISCARD = 2;

    private static final int MOST_BOATS = 9;
    private static final int LEAST_RATING = 50, GREATEST_RATING = 150;
    private static final int MOST_RACES = 6;
    private static final int MOST_BUOYS = 5;
    private static final int MOST_LAPS = 3;
    private static final int SHORTEST_WAIT = 60, LONGEST_WAIT = 3600;
    private static final int LONGEST_DELAY = 3600;
    private static final int RECALL_WITHIN = 60, RECALL_WAIT = 300;
    private static final int LONGEST_PASS = 9999;
    private static final int LAST_CLOCK = 999999;
    private static final int MOST_PROTESTS = 10;
    private static final int LONGEST_TEXT = 80;
    private static final int MOST_PAST = 4;
    private static final int FAULTY_LOG = -100;

    // The settings, in the order of their numbers.
    private static final int SETTINGS = 3;
    private static final int[] FIRST_VALUE = {600, 60, 4};
    private static final int[] LEAST_VALUE = {1, 1, 0};
    private static final int[] GREATEST_VALUE = {3600, 300, 6};

    // What the latest race is; 0 is none.
    private static final int PREPARED = 1, CLOSED = 2;

    // What a boat is in a race.
    private static final int WAITING = 0, EARLY = 1, SAILING = 2, FINISHED = 3, RETIRED = 4;

    // What a protest is.
    private static final int HAILED = 0, FILED = 1, ACCEPTED = 2, UPHELD = 3, DISMISSED = 4;

    // The columns of a course; they bear the numbers by which race asks for them.
    private static final int COURSE_COLUMNS = 3;
    private static final int BUOYS = 0, LAPS = 1, START = 2;

    // The columns of a boat's entry in a race; all but the last bear the numbers by which result
    // asks for them.
    private static final int ENTRY_COLUMNS = 6;
    private static final int KIND = 0, ROUNDINGS = 1, MISTAKES = 2, PENALTIES = 3,
            DISQUALIFIED = 4, FINISH = 5;

    // The columns of a protest; they bear the numbers by which protest asks for them.
    private static final int PROTEST_COLUMNS = 4;
    private static final int HAILER = 0, OTHER = 1, HAILED_AT = 2, STAGE = 3;

    private final State now;
    private final Committee committee;
    private final Jury jury;
    private final Scores scores;
    private final State supposed;
    private final Scores supposedScores;
    private final History history;
    private final State snapshot;
    private boolean hasSnapshot;
    private final Log log;

    public RegattaTimes() {
        now = new State();
        committee = new Committee(now);
        jury = new Jury(now);
        scores = new Scores(now);
        supposed = new State();
        supposedScores = new Scores(supposed);
        history = new History();
        snapshot = new State();
        hasSnapshot = false;
        log = new Log();
    }

    // ---- boats, races, the clock

    public int enter(int rating) {
        history.hold(now);
        return history.confirm(committee.enterBoat(rating));
    }

    public int prepare(int buoys, int laps, int in) {
        history.hold(now);
        return history.confirm(committee.prepareRace(buoys, laps, in));
    }

    public int postpone(int seconds) {
        history.hold(now);
        return history.confirm(committee.postponeStart(seconds));
    }

    public int recall() {
        history.hold(now);
        return history.confirm(committee.recallBoats());
    }

    public int pass(int seconds) {
        history.hold(now);
        return history.confirm(committee.passTime(seconds));
    }

    // ---- events of the race that is prepared

    public int line(int boat) {
        history.hold(now);
        return history.confirm(committee.crossLine(boat));
    }

    public int buoy(int boat, int buoy) {
        history.hold(now);
        return history.confirm(committee.passBuoy(boat, buoy));
    }

    public int retire(int boat) {
        history.hold(now);
        return history.confirm(committee.retireBoat(boat));
    }

    public int close() {
        history.hold(now);
        return history.confirm(committee.closeRace());
    }

    // ---- protests

    public int hail(int boat, int other) {
        history.hold(now);
        return history.confirm(jury.hailProtest(boat, other));
    }

    public int file(int protest) {
        history.hold(now);
        return history.confirm(jury.fileProtest(protest));
    }

    public int accept(int protest) {
        history.hold(now);
        return history.confirm(jury.acceptProtest(protest));
    }

    public int decide(int protest, boolean isUpheld) {
        history.hold(now);
        return history.confirm(jury.decideProtest(protest, isUpheld));
    }

    // ---- settings, text

    public int set(int setting, int value) {
        history.hold(now);
        return history.confirm(committee.changeSetting(setting, value));
    }

    public int append(int character) {
        return log.addSign(character);
    }

    public int clearText() {
        return log.empty();
    }

    public int fault() {
        return log.firstFault();
    }

    public int run() {
        int fault = log.firstFault();
        if (fault != NONE) {
            return FAULTY_LOG - fault;
        }
        history.hold(now);
        int done = 0;
        int from = 0;
        for (int at = 0; at <= log.length(); at++) {
            if (log.endsEvent(at)) {
                if (carryOutEvent(from, at) < 0) {
                    return history.confirm(done);
                }
                done++;
                from = at + 1;
            }
        }
        return history.confirm(done);
    }

    /** Answers what the event's own method would answer. */
    private int carryOutEvent(int from, int end) {
        switch (log.signAt(from)) {
            case Log.PASS:
                return committee.passTime(log.numberAt(from + 1, end));
            case Log.LINE:
                return committee.crossLine(log.digitAt(from + 1));
            case Log.BUOY:
                return committee.passBuoy(log.digitAt(from + 1), log.digitAt(from + 2));
            case Log.RETIRE:
                return committee.retireBoat(log.digitAt(from + 1));
            case Log.HAIL:
                return jury.hailProtest(log.digitAt(from + 1), log.digitAt(from + 2));
            default:
                return BAD_VALUE;
        }
    }

    // ---- history and snapshot

    public int undo() {
        return history.takeBack(now);
    }

    public int save() {
        snapshot.copyFrom(now);
        hasSnapshot = true;
        return now.clock;
    }

    public int restore() {
        if (!hasSnapshot) {
            return NOT_POSSIBLE;
        }
        history.hold(now);
        now.copyFrom(snapshot);
        return history.confirm(now.clock);
    }

    // ---- queries; they change nothing

    public int result(int race, int boat, int what) {
        if (!now.hasRace(race) || !now.hasBoat(boat)) {
            return NO_SUCH;
        }
        switch (what) {
            case KIND:
            case ROUNDINGS:
            case MISTAKES:
            case PENALTIES:
            case DISQUALIFIED:
                return now.entries.get(now.row(race, boat), what);
            case 5:
                return now.elapsed(race, boat);
            case 6:
                return now.corrected(race, boat);
            case 7:
                return now.isClosed(race) ? scores.placeIn(race, boat) : NONE;
            case 8:
                return now.isClosed(race) ? scores.pointsIn(race, boat) : NONE;
            default:
                return BAD_VALUE;
        }
    }

    public int boat(int boat, int what) {
        if (!now.hasBoat(boat)) {
            return NO_SUCH;
        }
        scores.recount();
        switch (what) {
            case 0:
                return now.ratings.get(boat, 0);
            case 1:
                return scores.total(boat);
            case 2:
                return scores.rank(boat);
            case 3:
                return scores.dropped(boat);
            case 4:
                return scores.firstPlaces(boat);
            default:
                return BAD_VALUE;
        }
    }

    public int ranked(int rank) {
        if (rank < 1) {
            return BAD_VALUE;
        }
        scores.recount();
        for (int boat = 0; boat < now.boats; boat++) {
            if (scores.rank(boat) == rank) {
                return boat;
            }
        }
        return NONE;
    }

    public int race(int race, int what) {
        if (!now.hasRace(race)) {
            return NO_SUCH;
        }
        switch (what) {
            case BUOYS:
            case LAPS:
            case START:
                return now.courses.get(race, what);
            case 3:
                return now.isClosed(race) ? CLOSED : PREPARED;
            case 4:
                return now.entriesWith(race, KIND, FINISHED);
            case 5:
                return now.entriesWith(race, DISQUALIFIED, 1);
            case 6:
                return scores.leader(race);
            default:
                return BAD_VALUE;
        }
    }

    public int protest(int protest, int what) {
        if (!now.hasProtest(protest)) {
            return NO_SUCH;
        }
        if (what < HAILER || what > STAGE) {
            return BAD_VALUE;
        }
        return now.cases.get(protest, what);
    }

    public int count(int what) {
        switch (what) {
            case 0:
                return now.boats;
            case 1:
                return now.races;
            case 2:
                return now.closedRaces();
            case 3:
                return now.clock;
            case 4:
                return now.latest;
            case 5:
                return now.protests;
            case 6:
                return now.setting(FILE);
            case 7:
                return now.setting(PENALTY);
            case 8:
                return now.setting(DISCARD);
            case 9:
                return history.size();
            case 10:
                return log.length();
            default:
                return BAD_VALUE;
        }
    }

    // ---- what would be; nothing is changed

    public int placeNow(int boat) {
        if (!now.hasBoat(boat)) {
            return NO_SUCH;
        }
        if (!now.isPrepared()) {
            return NOT_POSSIBLE;
        }
        return scores.placeIn(now.latestRace(), boat);
    }

    public int secondsLeft(int boat) {
        if (!now.hasBoat(boat)) {
            return NO_SUCH;
        }
        if (!now.isPrepared() || now.latestEntry(boat, KIND) != SAILING) {
            return NOT_POSSIBLE;
        }
        return scores.secondsToLead(boat);
    }

    public int rankIfDisqualified(int boat, int race) {
        if (!now.hasBoat(boat) || !now.hasRace(race)) {
            return NO_SUCH;
        }
        if (!now.isClosed(race)) {
            return NOT_POSSIBLE;
        }
        supposed.copyFrom(now);
        supposed.entries.put(supposed.row(race, boat), DISQUALIFIED, 1);
        supposedScores.recount();
        return supposedScores.rank(boat);
    }

    public float mean(int boat) {
        int closed = now.closedRaces();
        if (!now.hasBoat(boat) || closed <= 0) {
            return 0.0f;
        }
        scores.recount();
        return (float) scores.sum(boat) / (float) closed;
    }

    /** Numbers in rows and columns. A cell that is not there reads as 0 and takes nothing. */
    private static final class Table {
        private final int columns;
        private final int[] cells;

        Table(int rows, int columns) {
            this.columns = columns;
            cells = new int[Math.max(0, rows * columns)];
        }

        int get(int row, int column) {
            int at = row * columns + column;
            return at >= 0 && at < cells.length ? cells[at] : 0;
        }

        void put(int row, int column, int value) {
            int at = row * columns + column;
            if (at >= 0 && at < cells.length) {
                cells[at] = value;
            }
        }

        void add(int row, int column, int more) {
            put(row, column, get(row, column) + more);
        }

        void clearRow(int row) {
            for (int column = 0; column < columns; column++) {
                put(row, column, 0);
            }
        }

        void copyFrom(Table other) {
            int length = Math.min(cells.length, other.cells.length);
            System.arraycopy(other.cells, 0, cells, 0, length);
        }
    }

    /** All that the history and the snapshot keep. */
    private static final class State {
        int clock;
        int boats;
        int races;
        int latest;
        int protests;
        final Table ratings;
        final Table settings;
        final Table courses;
        final Table entries;
        final Table cases;

        State() {
            ratings = new Table(MOST_BOATS, 1);
            settings = new Table(SETTINGS, 1);
            courses = new Table(MOST_RACES, COURSE_COLUMNS);
            entries = new Table(MOST_RACES * MOST_BOATS, ENTRY_COLUMNS);
            cases = new Table(MOST_PROTESTS, PROTEST_COLUMNS);
            for (int setting = 0; setting < FIRST_VALUE.length; setting++) {
                settings.put(setting, 0, FIRST_VALUE[setting]);
            }
        }

        void copyFrom(State other) {
            clock = other.clock;
            boats = other.boats;
            races = other.races;
            latest = other.latest;
            protests = other.protests;
            ratings.copyFrom(other.ratings);
            settings.copyFrom(other.settings);
            courses.copyFrom(other.courses);
            entries.copyFrom(other.entries);
            cases.copyFrom(other.cases);
        }

        boolean hasBoat(int boat) {
            return boat >= 0 && boat < boats;
        }

        boolean hasRace(int race) {
            return race >= 0 && race < races;
        }

        boolean hasProtest(int protest) {
            return protest >= 0 && protest < protests;
        }

        boolean isPrepared() {
            return latest == PREPARED;
        }

        /** Only the latest race can be open, so the closed ones are those before this number. */
        int closedRaces() {
            return latest == PREPARED ? races - 1 : races;
        }

        boolean isClosed(int race) {
            return race >= 0 && race < closedRaces();
        }

        int latestRace() {
            return races - 1;
        }

        int start() {
            return courses.get(races - 1, START);
        }

        boolean isStarted() {
            return clock >= start();
        }

        int setting(int setting) {
            return settings.get(setting, 0);
        }

        int row(int race, int boat) {
            return race * MOST_BOATS + boat;
        }

        int latestEntry(int boat, int column) {
            return entries.get(row(races - 1, boat), column);
        }

        void putLatestEntry(int boat, int column, int value) {
            entries.put(row(races - 1, boat), column, value);
        }

        boolean isFinished(int race, int boat) {
            return entries.get(row(race, boat), KIND) == FINISHED;
        }

        /** How many boats have this value in this column of their entry. */
        int entriesWith(int race, int column, int value) {
            int found = 0;
            for (int boat = 0; boat < boats; boat++) {
                if (entries.get(row(race, boat), column) == value) {
                    found++;
                }
            }
            return found;
        }

        /** The seconds from the start to this time, and the penalties. */
        int elapsedUntil(int time, int race, int boat) {
            return time - courses.get(race, START) + entries.get(row(race, boat), PENALTIES);
        }

        int elapsed(int race, int boat) {
            if (!isFinished(race, boat)) {
                return NONE;
            }
            return elapsedUntil(entries.get(row(race, boat), FINISH), race, boat);
        }

        int corrected(int race, int boat) {
            int rating = ratings.get(boat, 0);
            if (!isFinished(race, boat) || rating <= 0) {
                return NONE;
            }
            int finish = entries.get(row(race, boat), FINISH);
            return 100 * elapsedUntil(finish, race, boat) / rating;
        }
    }

    /** Enters boats, keeps the clock, and takes down what the boats do in a race. */
    private static final class Committee {
        private final State state;

        Committee(State state) {
            this.state = state;
        }

        int enterBoat(int rating) {
            if (rating < LEAST_RATING || rating > GREATEST_RATING) {
                return BAD_VALUE;
            }
            if (state.races > 0) {
                return NOT_POSSIBLE;
            }
            if (state.boats >= MOST_BOATS) {
                return TOO_MANY;
            }
            int boat = state.boats;
            state.ratings.put(boat, 0, rating);
            state.boats++;
            return boat;
        }

        int prepareRace(int buoys, int laps, int in) {
            if (buoys < 1 || buoys > MOST_BUOYS || laps < 1 || laps > MOST_LAPS
                    || in < SHORTEST_WAIT || in > LONGEST_WAIT) {
                return BAD_VALUE;
            }
            if (state.boats == 0 || state.isPrepared()) {
                return NOT_POSSIBLE;
            }
            if (state.races >= MOST_RACES) {
                return TOO_MANY;
            }
            int race = state.races;
            state.courses.put(race, BUOYS, buoys);
            state.courses.put(race, LAPS, laps);
            state.races++;
            state.latest = PREPARED;
            startAnew(in);
            return race;
        }

        /** Also without the disqualifications: the protests that led to them are gone. */
        private void startAnew(int in) {
            state.courses.put(state.latestRace(), START, state.clock + in);
            for (int boat = 0; boat < state.boats; boat++) {
                state.entries.clearRow(state.row(state.latestRace(), boat));
            }
            state.protests = 0;
        }

        int postponeStart(int seconds) {
            if (seconds < 1 || seconds > LONGEST_DELAY) {
                return BAD_VALUE;
            }
            if (!state.isPrepared() || state.isStarted()) {
                return NOT_POSSIBLE;
            }
            state.courses.add(state.latestRace(), START, seconds);
            return state.start();
        }

        int recallBoats() {
            if (!state.isPrepared() || !state.isStarted()
                    || state.clock > state.start() + RECALL_WITHIN) {
                return NOT_POSSIBLE;
            }
            startAnew(RECALL_WAIT);
            return state.start();
        }

        int passTime(int seconds) {
            if (seconds < 1 || seconds > LONGEST_PASS) {
                return BAD_VALUE;
            }
            if (state.clock + seconds > LAST_CLOCK) {
                return TOO_MANY;
            }
            state.clock += seconds;
            return state.clock;
        }

        int crossLine(int boat) {
            if (!state.hasBoat(boat)) {
                return NO_SUCH;
            }
            if (!state.isPrepared()) {
                return NOT_POSSIBLE;
            }
            int kind = kindAfterLine(boat);
            if (kind == NOT_POSSIBLE) {
                return NOT_POSSIBLE;
            }
            if (kind == FINISHED) {
                state.putLatestEntry(boat, FINISH, state.clock);
            }
            state.putLatestEntry(boat, KIND, kind);
            return kind;
        }

        /** NOT_POSSIBLE if the boat can't cross the line. */
        private int kindAfterLine(int boat) {
            switch (state.latestEntry(boat, KIND)) {
                case WAITING:
                    return state.isStarted() ? SAILING : EARLY;
                case EARLY:
                    return state.isStarted() ? SAILING : WAITING;
                case SAILING:
                    return hasAllRoundings(boat) ? FINISHED : NOT_POSSIBLE;
                default:
                    return NOT_POSSIBLE;
            }
        }

        private boolean hasAllRoundings(int boat) {
            int race = state.latestRace();
            int all = state.courses.get(race, BUOYS) * state.courses.get(race, LAPS);
            return state.latestEntry(boat, ROUNDINGS) >= all;
        }

        int passBuoy(int boat, int buoy) {
            if (!state.hasBoat(boat)) {
                return NO_SUCH;
            }
            int buoys = state.courses.get(state.latestRace(), BUOYS);
            if (!state.isPrepared() || buoy < 0 || buoy >= buoys) {
                return BAD_VALUE;
            }
            if (state.latestEntry(boat, KIND) != SAILING) {
                return NOT_POSSIBLE;
            }
            int roundings = state.latestEntry(boat, ROUNDINGS);
            boolean isNext = buoys > 0 && buoy == roundings % buoys && !hasAllRoundings(boat);
            int column = isNext ? ROUNDINGS : MISTAKES;
            state.putLatestEntry(boat, column, state.latestEntry(boat, column) + 1);
            return state.latestEntry(boat, ROUNDINGS);
        }

        int retireBoat(int boat) {
            if (!state.hasBoat(boat)) {
                return NO_SUCH;
            }
            int kind = state.latestEntry(boat, KIND);
            if (!state.isPrepared() || kind == FINISHED || kind == RETIRED) {
                return NOT_POSSIBLE;
            }
            state.putLatestEntry(boat, KIND, RETIRED);
            return kind;
        }

        int closeRace() {
            if (!state.isPrepared() || !state.isStarted()) {
                return NOT_POSSIBLE;
            }
            state.latest = CLOSED;
            return state.entriesWith(state.latestRace(), KIND, FINISHED);
        }

        int changeSetting(int setting, int value) {
            if (setting < 0 || setting >= SETTINGS) {
                return NO_SUCH;
            }
            if (value < LEAST_VALUE[setting] || value > GREATEST_VALUE[setting]) {
                return BAD_VALUE;
            }
            int previous = state.setting(setting);
            state.settings.put(setting, 0, value);
            return previous;
        }
    }

    /** Hears the protests of the latest race. */
    private static final class Jury {
        private final State state;

        Jury(State state) {
            this.state = state;
        }

        int hailProtest(int boat, int other) {
            if (!state.hasBoat(boat) || !state.hasBoat(other)) {
                return NO_SUCH;
            }
            if (boat == other) {
                return BAD_VALUE;
            }
            if (!state.isPrepared() || !isOnCourse(boat) || !isOnCourse(other)) {
                return NOT_POSSIBLE;
            }
            if (state.protests >= MOST_PROTESTS) {
                return TOO_MANY;
            }
            int protest = state.protests;
            state.cases.put(protest, HAILER, boat);
            state.cases.put(protest, OTHER, other);
            state.cases.put(protest, HAILED_AT, state.clock);
            state.cases.put(protest, STAGE, HAILED);
            state.protests++;
            return protest;
        }

        private boolean isOnCourse(int boat) {
            int kind = state.latestEntry(boat, KIND);
            return kind == SAILING || kind == FINISHED;
        }

        int fileProtest(int protest) {
            if (!state.hasProtest(protest)) {
                return NO_SUCH;
            }
            int hailer = state.cases.get(protest, HAILER);
            if (state.cases.get(protest, STAGE) != HAILED
                    || state.latestEntry(hailer, KIND) != FINISHED) {
                return NOT_POSSIBLE;
            }
            int left = state.latestEntry(hailer, FINISH) + state.setting(FILE) - state.clock;
            if (left < 0) {
                return NOT_POSSIBLE;
            }
            state.cases.put(protest, STAGE, FILED);
            return left;
        }

        int acceptProtest(int protest) {
            if (!state.hasProtest(protest)) {
                return NO_SUCH;
            }
            int stage = state.cases.get(protest, STAGE);
            int other = state.cases.get(protest, OTHER);
            if (stage != HAILED && stage != FILED || state.latestEntry(other, KIND) == RETIRED) {
                return NOT_POSSIBLE;
            }
            int penalties = state.latestEntry(other, PENALTIES) + state.setting(PENALTY);
            state.putLatestEntry(other, PENALTIES, penalties);
            state.cases.put(protest, STAGE, ACCEPTED);
            return penalties;
        }

        int decideProtest(int protest, boolean isUpheld) {
            if (!state.hasProtest(protest)) {
                return NO_SUCH;
            }
            if (state.cases.get(protest, STAGE) != FILED) {
                return NOT_POSSIBLE;
            }
            state.cases.put(protest, STAGE, isUpheld ? UPHELD : DISMISSED);
            if (isUpheld) {
                state.putLatestEntry(state.cases.get(protest, OTHER), DISQUALIFIED, 1);
            }
            return state.entriesWith(state.latestRace(), DISQUALIFIED, 1);
        }
    }

    /** Counts places, points and ranks. Those of the series are as recount left them. */
    private static final class Scores {
        // The columns of a boat in the series.
        private static final int SUM_COLUMNS = 4;
        private static final int SUM = 0, TOTAL = 1, DROPPED = 2, LAST = 3;

        private final State state;
        // Of one race at a time: the corrected time of each boat that can have a place, else NONE.
        private final Table times;
        private final Table points;
        private final Table sums;
        // For each boat: how often it has the place that is the column's number.
        private final Table tallies;

        Scores(State state) {
            this.state = state;
            times = new Table(MOST_BOATS, 1);
            points = new Table(MOST_RACES, MOST_BOATS);
            sums = new Table(MOST_BOATS, SUM_COLUMNS);
            tallies = new Table(MOST_BOATS, MOST_BOATS + 1);
        }

        private void readTimes(int race) {
            for (int boat = 0; boat < state.boats; boat++) {
                boolean isOut = state.entries.get(state.row(race, boat), DISQUALIFIED) == 1;
                times.put(boat, 0, isOut ? NONE : state.corrected(race, boat));
            }
        }

        /** In the race whose times were read. */
        private int place(int boat) {
            int time = times.get(boat, 0);
            if (time == NONE) {
                return NONE;
            }
            int place = 1;
            for (int other = 0; other < state.boats; other++) {
                int otherTime = times.get(other, 0);
                if (otherTime != NONE && otherTime < time) {
                    place++;
                }
            }
            return place;
        }

        private int pointsFor(int race, int boat, int place) {
            if (state.entries.get(state.row(race, boat), DISQUALIFIED) == 1) {
                return state.boats + 2;
            }
            return place == NONE ? state.boats + 1 : place;
        }

        int placeIn(int race, int boat) {
            readTimes(race);
            return place(boat);
        }

        int pointsIn(int race, int boat) {
            return pointsFor(race, boat, placeIn(race, boat));
        }

        /** The first boat with the least time, or NONE. */
        int leader(int race) {
            readTimes(race);
            for (int boat = 0; boat < state.boats; boat++) {
                if (place(boat) == 1) {
                    return boat;
                }
            }
            return NONE;
        }

        int secondsToLead(int boat) {
            int race = state.latestRace();
            int leader = leader(race);
            if (leader == NONE) {
                return NONE;
            }
            // The corrected time is rounded down, so it is less than the least one as long as
            // 100 times the elapsed time is less than the least one times the rating.
            int bound = times.get(leader, 0) * state.ratings.get(boat, 0);
            int longest = Math.floorDiv(bound - 1, 100);
            int left = longest - state.elapsedUntil(state.clock, race, boat);
            return left < 0 ? NONE : left;
        }

        void recount() {
            for (int boat = 0; boat < state.boats; boat++) {
                tallies.clearRow(boat);
            }
            for (int race = 0; race < state.closedRaces(); race++) {
                recountRace(race);
            }
            for (int boat = 0; boat < state.boats; boat++) {
                sumUp(boat);
            }
        }

        private void recountRace(int race) {
            readTimes(race);
            for (int boat = 0; boat < state.boats; boat++) {
                int place = place(boat);
                points.put(race, boat, pointsFor(race, boat, place));
                if (place != NONE) {
                    tallies.add(boat, place, 1);
                }
            }
        }

        private void sumUp(int boat) {
            int sum = 0;
            int worst = NONE;
            int greatest = 0;
            int last = 0;
            for (int race = 0; race < state.closedRaces(); race++) {
                last = points.get(race, boat);
                sum += last;
                if (last >= greatest) {
                    greatest = last;
                    worst = race;
                }
            }
            boolean isDropping = isDropping();
            sums.put(boat, SUM, sum);
            sums.put(boat, TOTAL, isDropping ? sum - greatest : sum);
            sums.put(boat, DROPPED, isDropping ? worst : NONE);
            sums.put(boat, LAST, last);
        }

        private boolean isDropping() {
            int discard = state.setting(DISCARD);
            return discard != 0 && state.closedRaces() >= discard;
        }

        int sum(int boat) {
            return sums.get(boat, SUM);
        }

        int total(int boat) {
            return sums.get(boat, TOTAL);
        }

        int dropped(int boat) {
            return sums.get(boat, DROPPED);
        }

        int firstPlaces(int boat) {
            return tallies.get(boat, 1);
        }

        int rank(int boat) {
            int rank = 1;
            for (int other = 0; other < state.boats; other++) {
                if (isAhead(other, boat)) {
                    rank++;
                }
            }
            return rank;
        }

        private boolean isAhead(int boat, int other) {
            if (total(boat) != total(other)) {
                return total(boat) < total(other);
            }
            for (int place = 1; place <= MOST_BOATS; place++) {
                if (tallies.get(boat, place) != tallies.get(other, place)) {
                    return tallies.get(boat, place) > tallies.get(other, place);
                }
            }
            if (sums.get(boat, LAST) != sums.get(other, LAST)) {
                return sums.get(boat, LAST) < sums.get(other, LAST);
            }
            return boat < other;
        }
    }

    /** The latest states, and one slot more: it holds the state before an action under way. */
    private static final class History {
        private static final int SLOTS = MOST_PAST + 1;

        private final State[] slots;
        private int held;
        private int size;

        History() {
            slots = new State[SLOTS];
            for (int slot = 0; slot < SLOTS; slot++) {
                slots[slot] = new State();
            }
        }

        int size() {
            return size;
        }

        void hold(State state) {
            State slot = slot(held);
            if (slot != null) {
                slot.copyFrom(state);
            }
        }

        /** Null if there is no such slot. */
        private State slot(int at) {
            return at >= 0 && at < slots.length ? slots[at] : null;
        }

        /** Records the state that is held, unless the action's answer is an error code. */
        int confirm(int answer) {
            if (answer >= 0) {
                held = held + 1 < SLOTS ? held + 1 : 0;
                size = Math.min(size + 1, MOST_PAST);
            }
            return answer;
        }

        int takeBack(State state) {
            if (size == 0) {
                return NONE;
            }
            held = held > 0 ? held - 1 : SLOTS - 1;
            size--;
            State slot = slot(held);
            if (slot != null) {
                state.copyFrom(slot);
            }
            return size;
        }
    }

    /** The text, and the grammar of a log. */
    private static final class Log {
        static final char PASS = '+', LINE = 'l', BUOY = 'b', RETIRE = 'r', HAIL = 'h';

        private static final char SEPARATOR = ';';
        private static final int LEAST_SIGN = 32, GREATEST_SIGN = 126;
        private static final char LAST_BOAT = '8', LAST_BUOY = '4';

        // What a log can go on with after some of its characters.
        private static final int NOTHING = 0, AN_EVENT = 1, FIRST_DIGIT = 2, SECOND_DIGIT = 3,
                THIRD_DIGIT = 4, ITS_END = 5, A_BOAT = 6, TWO_BOATS = 7, BOAT_AND_BUOY = 8,
                A_BUOY = 9;

        private final StringBuilder text;

        Log() {
            text = new StringBuilder();
        }

        int addSign(int sign) {
            if (sign < LEAST_SIGN || sign > GREATEST_SIGN) {
                return BAD_VALUE;
            }
            if (text.length() >= LONGEST_TEXT) {
                return TOO_MANY;
            }
            text.append((char) sign);
            return text.length();
        }

        int empty() {
            int length = text.length();
            text.setLength(0);
            return length;
        }

        int length() {
            return text.length();
        }

        /** The separator behind the end of the text, where no event goes on. */
        char signAt(int at) {
            return at >= 0 && at < text.length() ? text.charAt(at) : SEPARATOR;
        }

        boolean endsEvent(int at) {
            return signAt(at) == SEPARATOR;
        }

        int digitAt(int at) {
            return signAt(at) - '0';
        }

        int numberAt(int from, int end) {
            int number = 0;
            for (int at = from; at < end; at++) {
                number = 10 * number + digitAt(at);
            }
            return number;
        }

        int firstFault() {
            int expected = AN_EVENT;
            for (int at = 0; at < text.length(); at++) {
                expected = expectedAfter(expected, text.charAt(at));
                if (expected == NOTHING) {
                    return at;
                }
            }
            return canEnd(expected) ? NONE : text.length();
        }

        private boolean canEnd(int expected) {
            return expected == SECOND_DIGIT || expected == THIRD_DIGIT || expected == ITS_END;
        }

        private int expectedAfter(int expected, char sign) {
            switch (expected) {
                case AN_EVENT:
                    return expectedAfterLetter(sign);
                case FIRST_DIGIT:
                    return isIn(sign, '1', '9') ? SECOND_DIGIT : NOTHING;
                case SECOND_DIGIT:
                    return isIn(sign, '0', '9') ? THIRD_DIGIT : expectedAfterEvent(sign);
                case THIRD_DIGIT:
                    return isIn(sign, '0', '9') ? ITS_END : expectedAfterEvent(sign);
                case ITS_END:
                    return expectedAfterEvent(sign);
                case A_BOAT:
                    return isIn(sign, '0', LAST_BOAT) ? ITS_END : NOTHING;
                case TWO_BOATS:
                    return isIn(sign, '0', LAST_BOAT) ? A_BOAT : NOTHING;
                case BOAT_AND_BUOY:
                    return isIn(sign, '0', LAST_BOAT) ? A_BUOY : NOTHING;
                case A_BUOY:
                    return isIn(sign, '0', LAST_BUOY) ? ITS_END : NOTHING;
                default:
                    return NOTHING;
            }
        }

        private int expectedAfterLetter(char sign) {
            switch (sign) {
                case PASS:
                    return FIRST_DIGIT;
                case LINE:
                case RETIRE:
                    return A_BOAT;
                case BUOY:
                    return BOAT_AND_BUOY;
                case HAIL:
                    return TWO_BOATS;
                default:
                    return NOTHING;
            }
        }

        private int expectedAfterEvent(char sign) {
            return sign == SEPARATOR ? AN_EVENT : NOTHING;
        }

        private boolean isIn(char sign, char first, char last) {
            return sign >= first && sign <= last;
        }
    }
}
