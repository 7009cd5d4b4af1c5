import java.util.ArrayDeque;
import java.util.ArrayList;
import java.util.Comparator;
import java.util.Deque;
import java.util.List;
import java.util.regex.Matcher;
import java.util.regex.Pattern;

/**
 * The document once more, told in another way: whole copies of the world, sorted lists, patterns, and
 * answers found by trying. ModelTest asks it and the program the same things.
 */
final class Model {
    static final int NO_SUCH = -1, BAD_VALUE = -2, TOO_MANY = -3, NOT_POSSIBLE = -4, NONE = -5;

    static final class Entry {
        int kind, roundings, mistakes, penalties, finish;
        boolean isDisqualified;

        Entry copy() {
            Entry e = new Entry();
            e.kind = kind;
            e.roundings = roundings;
            e.mistakes = mistakes;
            e.penalties = penalties;
            e.finish = finish;
            e.isDisqualified = isDisqualified;
            return e;
        }
    }

    static final class Race {
        int buoys, laps, start;
        boolean isClosed;
        List<Entry> entries = new ArrayList<>();

        Race copy() {
            Race r = new Race();
            r.buoys = buoys;
            r.laps = laps;
            r.start = start;
            r.isClosed = isClosed;
            for (Entry e : entries) {
                r.entries.add(e.copy());
            }
            return r;
        }
    }

    static final class World {
        int clock;
        List<Integer> ratings = new ArrayList<>();
        List<Race> races = new ArrayList<>();
        List<int[]> protests = new ArrayList<>();
        int[] settings = {600, 60, 4};

        World copy() {
            World w = new World();
            w.clock = clock;
            w.ratings.addAll(ratings);
            for (Race r : races) {
                w.races.add(r.copy());
            }
            for (int[] p : protests) {
                w.protests.add(p.clone());
            }
            w.settings = settings.clone();
            return w;
        }
    }

    private static final String EVENT = "(\\+[1-9][0-9]?[0-9]?|l[0-8]|b[0-8][0-4]|r[0-8]|h[0-8][0-8])";
    private static final Pattern LOG = Pattern.compile(EVENT + "(;" + EVENT + ")*");

    World w = new World();
    private final Deque<World> past = new ArrayDeque<>();
    private World saved = null;
    String text = "";

    private boolean isBoat(int boat) {
        return boat >= 0 && boat < w.ratings.size();
    }

    private boolean isRace(int race) {
        return race >= 0 && race < w.races.size();
    }

    Race latest() {
        return w.races.isEmpty() ? null : w.races.get(w.races.size() - 1);
    }

    Race open() {
        Race r = latest();
        return r == null || r.isClosed ? null : r;
    }

    private static boolean isIn(int value, int least, int greatest) {
        return least <= value && value <= greatest;
    }

    /** Asks the action of a copy, and takes the copy for the world if the answer is no error. */
    int act(String name, int a, int b, int c) {
        World before = w;
        w = w.copy();
        int answer = answer(name, a, b, c);
        if (answer < 0) {
            w = before;
        } else {
            past.addLast(before);
            if (past.size() > 4) {
                past.removeFirst();
            }
        }
        return answer;
    }

    private int answer(String name, int a, int b, int c) {
        switch (name) {
            case "enter": return enter(a);
            case "prepare": return prepare(a, b, c);
            case "postpone": return postpone(a);
            case "recall": return recall();
            case "pass": return pass(a);
            case "line": return line(a);
            case "buoy": return buoy(a, b);
            case "retire": return retire(a);
            case "close": return close();
            case "hail": return hail(a, b);
            case "file": return file(a);
            case "accept": return accept(a);
            case "decide": return decide(a, b != 0);
            case "set": return set(a, b);
            case "run": return run();
            case "restore": return restore();
            default: throw new IllegalArgumentException(name);
        }
    }

    private int enter(int rating) {
        if (!isIn(rating, 50, 150)) return BAD_VALUE;
        if (!w.races.isEmpty()) return NOT_POSSIBLE;
        if (w.ratings.size() == 9) return TOO_MANY;
        w.ratings.add(rating);
        return w.ratings.size() - 1;
    }

    private int prepare(int buoys, int laps, int in) {
        if (!isIn(buoys, 1, 5) || !isIn(laps, 1, 3) || !isIn(in, 60, 3600)) return BAD_VALUE;
        if (w.ratings.isEmpty() || open() != null) return NOT_POSSIBLE;
        if (w.races.size() == 6) return TOO_MANY;
        Race r = new Race();
        r.buoys = buoys;
        r.laps = laps;
        r.start = w.clock + in;
        w.ratings.forEach(rating -> r.entries.add(new Entry()));
        w.races.add(r);
        w.protests.clear();
        return w.races.size() - 1;
    }

    private int postpone(int seconds) {
        if (!isIn(seconds, 1, 3600)) return BAD_VALUE;
        if (open() == null || w.clock >= open().start) return NOT_POSSIBLE;
        open().start += seconds;
        return open().start;
    }

    private int recall() {
        Race r = open();
        if (r == null || !isIn(w.clock - r.start, 0, 60)) return NOT_POSSIBLE;
        r.start = w.clock + 300;
        r.entries.replaceAll(e -> new Entry());
        w.protests.clear();
        return r.start;
    }

    private int pass(int seconds) {
        if (!isIn(seconds, 1, 9999)) return BAD_VALUE;
        if (w.clock + seconds > 999999) return TOO_MANY;
        w.clock += seconds;
        return w.clock;
    }

    private int line(int boat) {
        if (!isBoat(boat)) return NO_SUCH;
        Race r = open();
        if (r == null) return NOT_POSSIBLE;
        Entry e = r.entries.get(boat);
        boolean isBefore = w.clock < r.start;
        if (e.kind == 0) {
            e.kind = isBefore ? 1 : 2;
        } else if (e.kind == 1) {
            e.kind = isBefore ? 0 : 2;
        } else if (e.kind == 2 && e.roundings == r.buoys * r.laps) {
            e.kind = 3;
            e.finish = w.clock;
        } else {
            return NOT_POSSIBLE;
        }
        return e.kind;
    }

    private int buoy(int boat, int buoy) {
        if (!isBoat(boat)) return NO_SUCH;
        Race r = open();
        if (r == null || !isIn(buoy, 0, r.buoys - 1)) return BAD_VALUE;
        Entry e = r.entries.get(boat);
        if (e.kind != 2) return NOT_POSSIBLE;
        List<Integer> course = new ArrayList<>();
        for (int lap = 0; lap < r.laps; lap++) {
            for (int b = 0; b < r.buoys; b++) {
                course.add(b);
            }
        }
        if (e.roundings < course.size() && course.get(e.roundings) == buoy) {
            e.roundings++;
        } else {
            e.mistakes++;
        }
        return e.roundings;
    }

    private int retire(int boat) {
        if (!isBoat(boat)) return NO_SUCH;
        if (open() == null || open().entries.get(boat).kind >= 3) return NOT_POSSIBLE;
        int was = open().entries.get(boat).kind;
        open().entries.get(boat).kind = 4;
        return was;
    }

    private int close() {
        if (open() == null || w.clock < open().start) return NOT_POSSIBLE;
        latest().isClosed = true;
        return (int) latest().entries.stream().filter(e -> e.kind == 3).count();
    }

    private boolean isOut(int boat) {
        int kind = open().entries.get(boat).kind;
        return kind == 2 || kind == 3;
    }

    private int hail(int boat, int other) {
        if (!isBoat(boat) || !isBoat(other)) return NO_SUCH;
        if (boat == other) return BAD_VALUE;
        if (open() == null || !isOut(boat) || !isOut(other)) return NOT_POSSIBLE;
        if (w.protests.size() == 10) return TOO_MANY;
        w.protests.add(new int[] {boat, other, w.clock, 0});
        return w.protests.size() - 1;
    }

    private int file(int protest) {
        if (!isIn(protest, 0, w.protests.size() - 1)) return NO_SUCH;
        int[] p = w.protests.get(protest);
        Entry hailer = latest().entries.get(p[0]);
        if (p[3] != 0 || hailer.kind != 3 || w.clock - hailer.finish > w.settings[0]) return NOT_POSSIBLE;
        p[3] = 1;
        return w.settings[0] - (w.clock - hailer.finish);
    }

    private int accept(int protest) {
        if (!isIn(protest, 0, w.protests.size() - 1)) return NO_SUCH;
        int[] p = w.protests.get(protest);
        Entry other = latest().entries.get(p[1]);
        if (p[3] > 1 || other.kind == 4) return NOT_POSSIBLE;
        p[3] = 2;
        other.penalties += w.settings[1];
        return other.penalties;
    }

    private int decide(int protest, boolean isUpheld) {
        if (!isIn(protest, 0, w.protests.size() - 1)) return NO_SUCH;
        int[] p = w.protests.get(protest);
        if (p[3] != 1) return NOT_POSSIBLE;
        p[3] = isUpheld ? 3 : 4;
        if (isUpheld) {
            latest().entries.get(p[1]).isDisqualified = true;
        }
        return (int) latest().entries.stream().filter(e -> e.isDisqualified).count();
    }

    private int set(int setting, int value) {
        if (!isIn(setting, 0, 2)) return NO_SUCH;
        int[][] ranges = {{1, 3600}, {1, 300}, {0, 6}};
        if (!isIn(value, ranges[setting][0], ranges[setting][1])) return BAD_VALUE;
        int was = w.settings[setting];
        w.settings[setting] = value;
        return was;
    }

    int append(int character) {
        if (!isIn(character, 32, 126)) return BAD_VALUE;
        if (text.length() == 80) return TOO_MANY;
        text += (char) character;
        return text.length();
    }

    int clearText() {
        int length = text.length();
        text = "";
        return length;
    }

    int fault() {
        for (int i = 0; i < text.length(); i++) {
            Matcher begin = LOG.matcher(text.substring(0, i + 1));
            if (!begin.matches() && !begin.hitEnd()) {
                return i;
            }
        }
        return LOG.matcher(text).matches() ? NONE : text.length();
    }

    private int run() {
        if (fault() != NONE) {
            return -100 - fault();
        }
        int done = 0;
        for (String event : text.split(";")) {
            int first = event.charAt(1) - '0';
            int second = event.length() > 2 ? event.charAt(2) - '0' : 0;
            int answer;
            switch (event.charAt(0)) {
                case '+': answer = pass(Integer.parseInt(event.substring(1))); break;
                case 'l': answer = line(first); break;
                case 'b': answer = buoy(first, second); break;
                case 'r': answer = retire(first); break;
                default: answer = hail(first, second); break;
            }
            if (answer < 0) {
                break;
            }
            done++;
        }
        return done;
    }

    int undo() {
        if (past.isEmpty()) return NONE;
        w = past.removeLast();
        return past.size();
    }

    int save() {
        saved = w.copy();
        return w.clock;
    }

    private int restore() {
        if (saved == null) return NOT_POSSIBLE;
        w = saved.copy();
        return w.clock;
    }

    private int elapsed(Race r, int boat) {
        Entry e = r.entries.get(boat);
        return e.kind != 3 ? NONE : e.finish - r.start + e.penalties;
    }

    private int corrected(Race r, int boat) {
        int elapsed = elapsed(r, boat);
        return elapsed == NONE ? NONE : 100 * elapsed / w.ratings.get(boat);
    }

    /** The boats that can have a place, the best ones first. */
    private List<Integer> placed(Race r) {
        List<Integer> boats = new ArrayList<>();
        for (int boat = 0; boat < w.ratings.size(); boat++) {
            if (r.entries.get(boat).kind == 3 && !r.entries.get(boat).isDisqualified) {
                boats.add(boat);
            }
        }
        boats.sort(Comparator.comparingInt((Integer boat) -> corrected(r, boat)).thenComparing(boat -> boat));
        return boats;
    }

    private int place(Race r, int boat) {
        List<Integer> boats = placed(r);
        if (!boats.contains(boat)) {
            return NONE;
        }
        int at = boats.indexOf(boat);
        while (at > 0 && corrected(r, boats.get(at - 1)) == corrected(r, boat)) {
            at--;
        }
        return at + 1;
    }

    private int points(Race r, int boat) {
        if (r.entries.get(boat).isDisqualified) return w.ratings.size() + 2;
        int place = place(r, boat);
        return place == NONE ? w.ratings.size() + 1 : place;
    }

    private List<Race> closed() {
        List<Race> closed = new ArrayList<>(w.races);
        closed.removeIf(r -> !r.isClosed);
        return closed;
    }

    private int dropped(int boat) {
        List<Race> closed = closed();
        if (w.settings[2] == 0 || closed.size() < w.settings[2]) return NONE;
        int at = NONE;
        int most = -1;
        for (int race = closed.size() - 1; race >= 0; race--) {
            if (points(closed.get(race), boat) > most) {
                most = points(closed.get(race), boat);
                at = race;
            }
        }
        return at;
    }

    private int sum(int boat) {
        return closed().stream().mapToInt(r -> points(r, boat)).sum();
    }

    private int total(int boat) {
        int dropped = dropped(boat);
        return dropped == NONE ? sum(boat) : sum(boat) - points(closed().get(dropped), boat);
    }

    private int places(int boat, int place) {
        return (int) closed().stream().filter(r -> place(r, boat) == place).count();
    }

    private List<Integer> order() {
        List<int[]> keys = new ArrayList<>();
        for (int boat = 0; boat < w.ratings.size(); boat++) {
            int[] key = new int[12];
            key[0] = total(boat);
            for (int place = 1; place <= 9; place++) {
                key[place] = -places(boat, place);
            }
            List<Race> closed = closed();
            key[10] = closed.isEmpty() ? 0 : points(closed.get(closed.size() - 1), boat);
            key[11] = boat;
            keys.add(key);
        }
        keys.sort((a, b) -> java.util.Arrays.compare(a, b));
        List<Integer> order = new ArrayList<>();
        for (int[] key : keys) {
            order.add(key[11]);
        }
        return order;
    }

    int result(int race, int boat, int what) {
        if (!isRace(race) || !isBoat(boat)) return NO_SUCH;
        Race r = w.races.get(race);
        Entry e = r.entries.get(boat);
        switch (what) {
            case 0: return e.kind;
            case 1: return e.roundings;
            case 2: return e.mistakes;
            case 3: return e.penalties;
            case 4: return e.isDisqualified ? 1 : 0;
            case 5: return elapsed(r, boat);
            case 6: return corrected(r, boat);
            case 7: return r.isClosed ? place(r, boat) : NONE;
            case 8: return r.isClosed ? points(r, boat) : NONE;
            default: return BAD_VALUE;
        }
    }

    int boat(int boat, int what) {
        if (!isBoat(boat)) return NO_SUCH;
        switch (what) {
            case 0: return w.ratings.get(boat);
            case 1: return total(boat);
            case 2: return order().indexOf(boat) + 1;
            case 3: return dropped(boat);
            case 4: return places(boat, 1);
            default: return BAD_VALUE;
        }
    }

    int ranked(int rank) {
        if (rank < 1) return BAD_VALUE;
        return rank > w.ratings.size() ? NONE : order().get(rank - 1);
    }

    int race(int race, int what) {
        if (!isRace(race)) return NO_SUCH;
        Race r = w.races.get(race);
        switch (what) {
            case 0: return r.buoys;
            case 1: return r.laps;
            case 2: return r.start;
            case 3: return r.isClosed ? 2 : 1;
            case 4: return (int) r.entries.stream().filter(e -> e.kind == 3).count();
            case 5: return (int) r.entries.stream().filter(e -> e.isDisqualified).count();
            case 6: return placed(r).isEmpty() ? NONE : placed(r).get(0);
            default: return BAD_VALUE;
        }
    }

    int protest(int protest, int what) {
        if (!isIn(protest, 0, w.protests.size() - 1)) return NO_SUCH;
        return isIn(what, 0, 3) ? w.protests.get(protest)[what] : BAD_VALUE;
    }

    int count(int what) {
        switch (what) {
            case 0: return w.ratings.size();
            case 1: return w.races.size();
            case 2: return closed().size();
            case 3: return w.clock;
            case 4: return latest() == null ? 0 : latest().isClosed ? 2 : 1;
            case 5: return w.protests.size();
            case 6: return w.settings[0];
            case 7: return w.settings[1];
            case 8: return w.settings[2];
            case 9: return past.size();
            case 10: return text.length();
            default: return BAD_VALUE;
        }
    }

    int placeNow(int boat) {
        if (!isBoat(boat)) return NO_SUCH;
        return open() == null ? NOT_POSSIBLE : place(open(), boat);
    }

    /** Lets the boat finish later and later, second by second, until it is too late. */
    int secondsLeft(int boat) {
        if (!isBoat(boat)) return NO_SUCH;
        if (open() == null || open().entries.get(boat).kind != 2) return NOT_POSSIBLE;
        List<Integer> placed = placed(open());
        if (placed.isEmpty()) return NONE;
        long least = corrected(open(), placed.get(0));
        long elapsed = w.clock - open().start + open().entries.get(boat).penalties;
        int seconds = 0;
        while (100 * (elapsed + seconds) / w.ratings.get(boat) < least) {
            seconds++;
        }
        return seconds == 0 ? NONE : seconds - 1;
    }

    int rankIfDisqualified(int boat, int race) {
        if (!isBoat(boat) || !isRace(race)) return NO_SUCH;
        if (!w.races.get(race).isClosed) return NOT_POSSIBLE;
        World before = w;
        w = w.copy();
        w.races.get(race).entries.get(boat).isDisqualified = true;
        int rank = order().indexOf(boat) + 1;
        w = before;
        return rank;
    }

    float mean(int boat) {
        if (!isBoat(boat) || closed().isEmpty()) return 0.0f;
        return (float) sum(boat) / closed().size();
    }
}
