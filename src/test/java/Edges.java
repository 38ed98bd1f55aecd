import java.util.function.Consumer;
import java.util.function.ToLongFunction;

/** What the tests of edges have in common. */
abstract class Edges {
    static final int BAD = NeverInLine.BAD, NOT = NeverInLine.NOT, FULL = NeverInLine.FULL, STATE = NeverInLine.STATE;
    static final int MIN = Integer.MIN_VALUE, MAX = Integer.MAX_VALUE;
    static final Check CHECK = new Check("edges");
    static final Twins TWINS = new Twins(CHECK);

    static void due(String call, long got, long want) {
        CHECK.due(call, got, want);
    }

    static void refused(String call, Consumer<NeverInLine> making, ToLongFunction<NeverInLine> made, long want) {
        TWINS.refused(call, making, made, want);
    }

    /** What is BAD in any state, also where it would be FULL. */
    static void bad(String call, ToLongFunction<NeverInLine> made) {
        refused(call + " on nothing", States::empty, made, BAD);
        refused(call + " on some", States::rich, made, BAD);
        refused(call + " on all full", States::full, made, BAD);
    }

    static int p(int x, int y) {
        return States.p(x, y);
    }
}
