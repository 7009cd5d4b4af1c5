import java.util.stream.IntStream;

/** Brings new objects into the states in which the tests begin. */
final class Scene {
    /** Ratings of as many boats as there can be. */
    static final int[] NINE = {100, 100, 100, 100, 100, 100, 100, 100, 100};

    /** For sailResults: a boat that does not finish, and one that does not and is disqualified. */
    static final int UNFINISHED = 0, DISQUALIFIED = -1;

    private Scene() {
    }

    /** A series with a boat for each rating. */
    static RegattaTimes fleet(int... ratings) {
        RegattaTimes x = new RegattaTimes();
        enter(x, ratings);
        return x;
    }

    static void enter(RegattaTimes x, int... ratings) {
        for (int rating : ratings) {
            x.enter(rating);
        }
    }

    /** Any number of seconds, in as few calls as there can be. */
    static void pass(RegattaTimes x, int seconds) {
        for (int left = seconds; left > 0; left -= 9999) {
            x.pass(Math.min(left, 9999));
        }
    }

    /** Numbers outside of a range: those beside it, and those that a shorter or wrapped number could hide. */
    static int[] outside(int least, int greatest) {
        return IntStream.of(least - 1, greatest + 1, -1, Integer.MIN_VALUE, Integer.MAX_VALUE, 256 + least,
                65536 + least, least - 65536, Integer.MIN_VALUE + least)
                .filter(value -> value < least || value > greatest).distinct().toArray();
    }

    /** The same, with a race of one buoy and one lap; all boats sail, and the clock is its start, 60. */
    static RegattaTimes sailing(int... ratings) {
        RegattaTimes x = fleet(ratings);
        start(x);
        return x;
    }

    /** Starts a race of one buoy and one lap, with all boats, 60 seconds from now. */
    static void start(RegattaTimes x) {
        x.prepare(1, 1, 60);
        x.pass(60);
        for (int boat = 0; boat < x.count(0); boat++) {
            x.line(boat);
        }
    }

    /** Lets a sailing boat make its rounding and finish now. */
    static void finish(RegattaTimes x, int boat) {
        x.buoy(boat, 0);
        x.line(boat);
    }

    /** Sails a whole race in which the boats come in one second apart, in this order. */
    static void sail(RegattaTimes x, int... order) {
        start(x);
        for (int boat : order) {
            x.pass(1);
            finish(x, boat);
        }
        x.close();
    }

    /** Sails a whole race in which each boat finishes so many seconds after the start, or does not. */
    static void sailResults(RegattaTimes x, int... seconds) {
        start(x);
        int first = 0;
        for (int boat = 0; boat < seconds.length; boat++) {
            first = seconds[first] <= 0 ? boat : first;
        }
        int hailed = 0;
        int last = 0;
        for (int boat = 0; boat < seconds.length; boat++) {
            if (seconds[boat] == DISQUALIFIED) {
                x.hail(first, boat);
                hailed++;
            }
            last = Math.max(last, seconds[boat]);
        }
        for (int second = 1; second <= last; second++) {
            x.pass(1);
            for (int boat = 0; boat < seconds.length; boat++) {
                if (seconds[boat] == second) {
                    finish(x, boat);
                }
            }
        }
        for (int protest = 0; protest < hailed; protest++) {
            x.file(protest);
            x.decide(protest, true);
        }
        x.close();
    }

    /** What the object tells of the clock, the settings, two boats, the latest race and its protests. */
    static String picture(RegattaTimes x) {
        StringBuilder picture = new StringBuilder();
        int race = x.count(1) - 1;
        for (int what = 0; what <= 8; what++) {
            picture.append(x.count(what)).append(' ');
            picture.append(x.race(race, what)).append(' ');
            picture.append(x.result(race, 0, what)).append(' ');
            picture.append(x.result(race, 1, what)).append(' ');
            picture.append(x.protest(what / 3, what % 3 + 1)).append(' ');
        }
        return picture.append(x.boat(0, 0)).append(' ').append(x.boat(1, 0)).toString();
    }

    static void write(RegattaTimes x, String text) {
        x.clearText();
        for (int i = 0; i < text.length(); i++) {
            x.append(text.charAt(i));
        }
    }
}
