import java.util.ArrayList;
import java.util.List;
import java.util.function.Consumer;

/**
 * Calls that are made anew on a new object whenever it is asked: an object bears 512 calls alone, and an
 * object that has been asked or undone would no longer be the same.
 */
final class Story {
    /** An int or a float; a double holds each of both exactly. */
    interface Call {
        double on(RegattaTimes x);
    }

    // With the calls of the longest story, a new object's share of questions stays under 512 calls.
    private static final int ASKED_AT_ONCE = 120;
    private static final int MOST_STATES = 4;

    private final List<Consumer<RegattaTimes>> calls;
    private List<List<Double>> all = null;

    Story() {
        this(List.of());
    }

    private Story(List<Consumer<RegattaTimes>> calls) {
        this.calls = calls;
    }

    static Story fleet(int... ratings) {
        return new Story().and(x -> Scene.enter(x, ratings));
    }

    /** A boat for each rating, all sailing in a race of one buoy and one lap; the clock is its start, 60. */
    static Story sailing(int... ratings) {
        return fleet(ratings).and(x -> Scene.start(x));
    }

    /** This story and what is called after it; this one stays as it is. */
    Story and(Consumer<RegattaTimes> more) {
        List<Consumer<RegattaTimes>> longer = new ArrayList<>(calls);
        longer.add(more);
        return new Story(longer);
    }

    Story passed(int seconds) {
        return and(x -> Scene.pass(x, seconds));
    }

    Story written(String text) {
        return and(x -> Scene.write(x, text));
    }

    /** The same state with an empty history. */
    Story forgotten() {
        return and(x -> {
            x.save();
            for (int i = 0; i < MOST_STATES; i++) {
                x.restore();
            }
            while (x.count(9) > 0) {
                x.undo();
            }
        });
    }

    RegattaTimes told() {
        RegattaTimes x = new RegattaTimes();
        for (Consumer<RegattaTimes> call : calls) {
            call.accept(x);
        }
        return x;
    }

    double answer(Call call) {
        return call.on(told());
    }

    /**
     * Whatever can be asked of the state, the text, each state of the history and the snapshot: two
     * stories that lead to the same have the same of it.
     */
    List<List<Double>> all() {
        if (all == null) {
            all = new ArrayList<>();
            Story undone = this;
            for (int states = (int) answer(x -> x.count(9)); states >= 0; states--) {
                all.add(undone.picture());
                undone = undone.and(x -> x.undo());
            }
            all.add(List.of(undone.answer(x -> x.undo())));
            all.add(List.of(answer(x -> x.restore())));
            all.add(and(x -> x.restore()).picture());
            all.add(List.of(answer(x -> x.fault()), answer(x -> x.run())));
            all.add(and(x -> x.run()).picture());
        }
        return all;
    }

    /** The answers of all queries that the state has an answer for. */
    List<Double> picture() {
        List<Call> asked = questions();
        List<Double> answers = new ArrayList<>();
        RegattaTimes x = null;
        for (int i = 0; i < asked.size(); i++) {
            x = i % ASKED_AT_ONCE == 0 ? told() : x;
            answers.add(asked.get(i).on(x));
        }
        return answers;
    }

    private List<Call> questions() {
        RegattaTimes x = told();
        int boats = x.count(0);
        int races = x.count(1);
        List<Call> asked = new ArrayList<>();
        for (int what = 0; what <= 10; what++) {
            int w = what;
            asked.add(y -> y.count(w));
        }
        for (int boat = 0; boat < boats; boat++) {
            askOfBoat(asked, boat, races);
        }
        for (int race = 0; race < races; race++) {
            for (int what = 0; what <= 6; what++) {
                int r = race;
                int w = what;
                asked.add(y -> y.race(r, w));
            }
        }
        for (int at = 0; at < 4 * x.count(5); at++) {
            int protest = at / 4;
            int w = at % 4;
            asked.add(y -> y.protest(protest, w));
        }
        return asked;
    }

    private static void askOfBoat(List<Call> asked, int boat, int races) {
        for (int what = 0; what <= 4; what++) {
            int w = what;
            asked.add(y -> y.boat(boat, w));
        }
        asked.add(y -> y.ranked(boat + 1));
        asked.add(y -> y.placeNow(boat));
        asked.add(y -> y.secondsLeft(boat));
        asked.add(y -> y.mean(boat));
        for (int race = 0; race < races; race++) {
            int r = race;
            asked.add(y -> y.rankIfDisqualified(boat, r));
            for (int what = 0; what <= 8; what++) {
                int w = what;
                asked.add(y -> y.result(r, boat, w));
            }
        }
    }
}
