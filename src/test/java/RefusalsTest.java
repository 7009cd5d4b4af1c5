import java.util.LinkedHashMap;
import java.util.Map;

/**
 * "A method that returns an error code changes nothing", "queries; they change nothing", "what would be;
 * nothing is changed": each method with ordinary, bordering and wild arguments, in states from the empty to
 * the full. What a call must answer there is told by the tests of its promise.
 */
public final class RefusalsTest {
    private static final Due due = new Due();
    private static final int[] NUMBERS = {Integer.MIN_VALUE, -1, 0, 1, 2, 5, 8, 9, 10, Integer.MAX_VALUE};
    private static final int[] VALUES = {-1, 0, 1, 6, 7, 31, 32, 49, 50, 59, 60, 126, 127, 150, 151, 300, 301, 3600,
        3601, 9999, 10000, Integer.MAX_VALUE};

    private static final Map<String, Story> states = new LinkedHashMap<>();
    private static final Map<String, Story.Call> calls = new LinkedHashMap<>();

    public static void main(String[] args) {
        tellStates();
        tellActions();
        tellQueries();
        int refused = 0;
        for (Map.Entry<String, Story> state : states.entrySet()) {
            for (Map.Entry<String, Story.Call> call : calls.entrySet()) {
                refused += isRefusedUnchanged(state.getKey(), state.getValue(), call.getKey(), call.getValue()) ? 1 : 0;
            }
        }
        due.holds("many calls are refused, but " + refused, refused > 2000);
        due.end();
    }

    /** Queries are marked with a '?': they are to change nothing even if they are not refused. */
    private static boolean isRefusedUnchanged(String state, Story story, String name, Story.Call call) {
        if (story.answer(call) >= 0 && !name.startsWith("?")) {
            return false;
        }
        due.holds(name + " changes nothing, " + state, story.and(x -> call.on(x)).all().equals(story.all()));
        return true;
    }

    private static void tellStates() {
        Story fleet = Story.fleet(100, 90, 150);
        Story prepared = fleet.and(x -> x.prepare(2, 1, 60)).and(x -> x.line(0));
        Story sailing = prepared.passed(60).and(x -> x.line(0)).and(x -> x.line(1)).and(x -> x.hail(0, 1))
                .and(x -> x.buoy(1, 0));
        Story finished = sailing.and(x -> x.buoy(1, 1)).and(x -> x.hail(1, 0)).passed(5).and(x -> x.line(1))
                .and(x -> x.file(1)).and(x -> x.retire(2));
        Story closed = finished.and(x -> x.save()).and(x -> x.close());
        states.put("a new object", new Story());
        states.put("a fleet", fleet);
        states.put("nine boats", Story.fleet(100, 100, 100, 100, 100, 100, 100, 100, 100));
        states.put("prepared", prepared.written("l0;l0;+1"));
        states.put("sailing", sailing.written("b01;h00"));
        states.put("finished", finished.written("+"));
        states.put("closed", closed.written("z".repeat(80)));
        states.put("the next race", closed.and(x -> x.prepare(5, 3, 99)));
        states.put("all is full", Story.sailing(100, 100).and(x -> {
            x.close();
            for (int race = 1; race < 6; race++) {
                Scene.start(x);
                for (int protest = 0; race == 5 && protest < 10; protest++) {
                    x.hail(0, 1);
                }
                x.close();
            }
        }).passed(999999 - 360));
    }

    private static void tell(String name, Story.Call call) {
        calls.put(name, call);
    }

    private static void tellActions() {
        for (int v : VALUES) {
            tell("enter(" + v + ")", x -> x.enter(v));
            tell("prepare(1, 1, " + v + ")", x -> x.prepare(1, 1, v));
            tell("prepare(" + v + ", 1, 60)", x -> x.prepare(v, 1, 60));
            tell("prepare(1, " + v + ", 60)", x -> x.prepare(1, v, 60));
            tell("postpone(" + v + ")", x -> x.postpone(v));
            tell("pass(" + v + ")", x -> x.pass(v));
            tell("append(" + v + ")", x -> x.append(v));
            for (int setting : new int[] {-1, 0, 1, 2, 3}) {
                tell("set(" + setting + ", " + v + ")", x -> x.set(setting, v));
            }
        }
        for (int n : NUMBERS) {
            tell("line(" + n + ")", x -> x.line(n));
            tell("retire(" + n + ")", x -> x.retire(n));
            tell("file(" + n + ")", x -> x.file(n));
            tell("accept(" + n + ")", x -> x.accept(n));
            tell("decide(" + n + ", true)", x -> x.decide(n, true));
            tell("decide(" + n + ", false)", x -> x.decide(n, false));
            for (int m : NUMBERS) {
                tell("buoy(" + n + ", " + m + ")", x -> x.buoy(n, m));
                tell("hail(" + n + ", " + m + ")", x -> x.hail(n, m));
            }
        }
        tell("recall()", x -> x.recall());
        tell("close()", x -> x.close());
        tell("run()", x -> x.run());
        tell("undo()", x -> x.undo());
        tell("restore()", x -> x.restore());
    }

    private static void tellQueries() {
        tell("?fault()", x -> x.fault());
        for (int n : NUMBERS) {
            tell("?ranked(" + n + ")", x -> x.ranked(n));
            tell("?count(" + n + ")", x -> x.count(n));
            tell("?placeNow(" + n + ")", x -> x.placeNow(n));
            tell("?secondsLeft(" + n + ")", x -> x.secondsLeft(n));
            tell("?mean(" + n + ")", x -> x.mean(n));
            for (int m : NUMBERS) {
                tell("?boat(" + n + ", " + m + ")", x -> x.boat(n, m));
                tell("?race(" + n + ", " + m + ")", x -> x.race(n, m));
                tell("?protest(" + n + ", " + m + ")", x -> x.protest(n, m));
                tell("?rankIfDisqualified(" + n + ", " + m + ")", x -> x.rankIfDisqualified(n, m));
                for (int what : new int[] {-1, 0, 4, 5, 6, 7, 8, 9}) {
                    tell("?result(" + n + ", " + m + ", " + what + ")", x -> x.result(n, m, what));
                }
            }
        }
    }
}
