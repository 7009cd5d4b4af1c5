/** Brings new objects into the states in which the tests begin. */
final class Scene {
    private Scene() {
    }

    /** A series with a boat for each rating. */
    static RegattaTimes fleet(int... ratings) {
        RegattaTimes x = new RegattaTimes();
        for (int rating : ratings) {
            x.enter(rating);
        }
        return x;
    }

    /** The same, with a race of one buoy and one lap; all boats sail, and the clock is its start, 60. */
    static RegattaTimes sailing(int... ratings) {
        RegattaTimes x = fleet(ratings);
        start(x);
        return x;
    }

    /** Starts a race of one buoy and one lap, with all boats, 60 seconds from now. */
    static void start(RegattaTimes x) {
        x.prepare(1, 1, 60);
        x.pass(60);
        for (int boat = 0; boat < x.count(0); boat++) {
            x.line(boat);
        }
    }

    /** Lets a sailing boat make its rounding and finish now. */
    static void finish(RegattaTimes x, int boat) {
        x.buoy(boat, 0);
        x.line(boat);
    }

    /** Sails a whole race in which the boats come in one second apart, in this order. */
    static void sail(RegattaTimes x, int... order) {
        start(x);
        for (int boat : order) {
            x.pass(1);
            finish(x, boat);
        }
        x.close();
    }

    /** What the object tells of the clock, the settings, two boats, the latest race and its protests. */
    static String picture(RegattaTimes x) {
        StringBuilder picture = new StringBuilder();
        int race = x.count(1) - 1;
        for (int what = 0; what <= 8; what++) {
            picture.append(x.count(what)).append(' ');
            picture.append(x.race(race, what)).append(' ');
            picture.append(x.result(race, 0, what)).append(' ');
            picture.append(x.result(race, 1, what)).append(' ');
            picture.append(x.protest(what / 3, what % 3 + 1)).append(' ');
        }
        return picture.append(x.boat(0, 0)).append(' ').append(x.boat(1, 0)).toString();
    }

    static void write(RegattaTimes x, String text) {
        x.clearText();
        for (int i = 0; i < text.length(); i++) {
            x.append(text.charAt(i));
        }
    }
}
