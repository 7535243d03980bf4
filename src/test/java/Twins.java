import java.util.function.Supplier;
import java.util.function.ToLongFunction;

/** Two objects to which the same was done: what one of them is asked beyond that must leave no trace. */
final class Twins {
    private Twins() {
    }

    /** The answer is due, and nothing changes by it. */
    static void unchanged(String call, Supplier<NineCats> made, ToLongFunction<NineCats> asked, long want) {
        NineCats one = made.get();
        NineCats other = made.get();
        Due.is(call, asked.applyAsLong(one), want);
        Due.isText("an object behind " + call, Look.through(one), Look.through(other));
    }
}
