import java.util.function.Consumer;
import java.util.function.Function;
import java.util.function.ToLongFunction;

/** Objects made alike: one of them is called as told, and then has to answer like its twin that never was. */
final class Twins {
    private final Check check;

    Twins(Check check) {
        this.check = check;
    }

    /** A refused call, made twice over: what it answers, and that it leaves all as it was. */
    void refused(String call, Consumer<NeverInLine> making, ToLongFunction<NeverInLine> made, long want) {
        NeverInLine x = made(making);
        check.due(call, made.applyAsLong(x), want);
        check.due(call + ", again", made.applyAsLong(x), want);
        alike(call, making.andThen(made::applyAsLong), making);
    }

    /** A call that asks, or does what is in thought only. */
    void asks(String call, Consumer<NeverInLine> making, ToLongFunction<NeverInLine> made) {
        alike(call, making.andThen(made::applyAsLong), making);
    }

    void alike(String call, Consumer<NeverInLine> one, Consumer<NeverInLine> other) {
        for (Function<NeverInLine, String> side : Portrait.SIDES) {
            String got = side.apply(made(one));
            String want = side.apply(made(other));
            check.holds(call + " leaves all as it was; it is " + got + ", and was " + want, got.equals(want));
        }
    }

    static NeverInLine made(Consumer<NeverInLine> making) {
        NeverInLine x = new NeverInLine();
        making.accept(x);
        return x;
    }
}
