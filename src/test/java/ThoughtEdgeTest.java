import java.util.LinkedHashMap;
import java.util.Map;
import java.util.function.Consumer;
import java.util.function.ToLongFunction;

/** What only asks, or is done in thought, leaves all as it was: each such call, on states with nothing, with some, with all full. */
final class ThoughtEdgeTest extends Edges {
    private static final Map<String, ToLongFunction<NeverInLine>> CALLS = new LinkedHashMap<>();
    private static final Map<String, Consumer<NeverInLine>> MAKINGS = new LinkedHashMap<>();

    private ThoughtEdgeTest() { }

    public static void main(String[] args) {
        calls();
        makings();
        for (Map.Entry<String, Consumer<NeverInLine>> making : MAKINGS.entrySet()) {
            for (Map.Entry<String, ToLongFunction<NeverInLine>> call : CALLS.entrySet()) {
                TWINS.asks(call.getKey() + " on " + making.getKey(), making.getValue(), call.getValue());
            }
        }
        repeated();
        towerAfterThought();
        CHECK.end();
    }

    private static void calls() {
        CALLS.put("10: of a tower", x -> x.of(0, 1));
        CALLS.put("10: of a road", x -> x.of(0, 20));
        CALLS.put("11: line", x -> x.line(1, p(0, 5), 4));
        CALLS.put("12: guilty", x -> x.guilty(0, 1, 1));
        CALLS.put("13: guilts", x -> x.guilts(-1));
        CALLS.put("14: which", x -> x.which(3));
        CALLS.put("15: led", x -> x.led(0));
        CALLS.put("16: seen", x -> x.seen(p(0, 5)));
        CALLS.put("17: free", x -> x.free(5, 0, 0));
        CALLS.put("17: free, the first", x -> x.free(29, 9, 1));
        CALLS.put("18: years", x -> x.years(0, 0));
        CALLS.put("18: years, the last", x -> x.years(9, 1));
        CALLS.put("19: fewest", NeverInLine::fewest);
        CALLS.put("20: cheapest", x -> x.cheapest(1));
        CALLS.put("21: moved", x -> x.moved(0, 1018));
        CALLS.put("22: bent", x -> x.bent(0, 1));
        CALLS.put("23: newly", x -> x.newly(0, 899));
        CALLS.put("24: game", x -> x.game(p(27, 5), 30, 0));
        CALLS.put("24: game, the first", x -> x.game(p(9, 4), 29, 1));
        CALLS.put("26: fits", x -> x.fits(0, 0));
        CALLS.put("26: fits, the first", x -> x.fits(0, 1));
        CALLS.put("31: trace", x -> x.trace(0));
        CALLS.put("35: element", x -> x.element(0, 0));
        CALLS.put("37: taken", x -> x.taken(0, 0));
        CALLS.put("38: count", x -> x.count(0));
    }

    private static void makings() {
        MAKINGS.put("nothing", States::empty);
        MAKINGS.put("some", States::rich);
        MAKINGS.put("all full", States::full);
        MAKINGS.put("one tower", ThoughtEdgeTest::one);
        MAKINGS.put("one tower, with a law", x -> {
            one(x);
            States.law(x, "a=9|b=9|m=10");
        });
        MAKINGS.put("nine towers", ThoughtEdgeTest::nine);
    }

    /** A road that would see one more tower in this one's row in line with it. */
    private static void one(NeverInLine x) {
        x.tower(p(5, 5), 10);
        x.road(p(0, 5), p(0, 6));
    }

    private static void nine(NeverInLine x) {
        for (int t = 0; t < 9; t++) {
            x.tower(p(5 + t, 5 + 2 * t), 1000 * t + 11);
        }
        x.road(p(0, 5), p(0, 6));
        x.road(p(29, 29), p(29, 0));
    }

    /** The same call answers the same again, and after each other one. */
    private static void repeated() {
        for (Map.Entry<String, Consumer<NeverInLine>> making : MAKINGS.entrySet()) {
            NeverInLine all = Twins.made(making.getValue());
            for (Map.Entry<String, ToLongFunction<NeverInLine>> call : CALLS.entrySet()) {
                long alone = call.getValue().applyAsLong(Twins.made(making.getValue()));
                due(call.getKey() + " on " + making.getKey() + " after all ahead", call.getValue().applyAsLong(all), alone);
                due(call.getKey() + " on " + making.getKey() + " again", call.getValue().applyAsLong(all), alone);
            }
        }
    }

    /** A tower that comes by the number of one that was thought of is as it is told, not as that one was. */
    private static void towerAfterThought() {
        for (Map.Entry<String, ToLongFunction<NeverInLine>> call : CALLS.entrySet()) {
            NeverInLine x = Twins.made(ThoughtEdgeTest::one);
            States.law(x, "o=1&a=0&b=7&m=1");
            call.getValue().applyAsLong(x);
            x.tower(p(15, 5), 7001);
            due("2: a tower behind it after " + call.getKey(), x.line(1, p(0, 5), 0), 1);
            due("2: its guilts after " + call.getKey(), x.guilts(-1), 1);
            NeverInLine y = Twins.made(ThoughtEdgeTest::one);
            States.law(y, "o=0&b=0");
            call.getValue().applyAsLong(y);
            y.row(0, 1, 3);
            y.put(0, 0, p(15, 5));
            y.put(0, 2, 99);
            due("3: one comes from a row after " + call.getKey(), y.towers(0, 0, 1), 1);
            due("3: its guilts after " + call.getKey(), y.guilts(-1), 1);
        }
    }
}
