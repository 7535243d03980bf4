import java.lang.management.ManagementFactory;
import java.util.function.ToLongFunction;

/** "An object is used for at most 512 calls": the last of them answers as the first, and none of them makes objects. */
public final class CallsTest {
    private static final int MOST_CALLS = 512;
    private static final long FEW_BYTES = 4096;

    public static void main(String[] args) {
        theLastCall();
        typedAndCleared();
        readAgainAndAgain();
        eachCallAgainAndAgain();
        Due.end();
    }

    private static void theLastCall() {
        NineCats x = Due.told("sleeper 9;");
        int made = 4;
        for (int i = made; i < MOST_CALLS - 1; i++) {
            x.mark(5, 0);
        }
        Due.is("trace() as the last call", x.trace(), (MOST_CALLS - 1 - made) * 100001L);
    }

    private static void typedAndCleared() {
        NineCats x = new NineCats();
        for (int i = 1; i <= 200; i++) {
            Due.is("type() of byte " + i, x.type('a', 1), i);
        }
        for (int i = 200; i < MOST_CALLS - 2; i++) {
            Due.is("type() beyond 200", x.type('a', 1), NineCats.FULL);
        }
        Due.is("clear()", x.clear(), 200);
        Due.is("type() as the last call", x.type('a', 1), 1);
    }

    private static void readAgainAndAgain() {
        NineCats x = new NineCats();
        for (int calls = 0; calls < MOST_CALLS; calls += 4) {
            x.type(0x6e6f736520L, 5);
            x.type('0' + calls / 4 % 10, 1);
            x.type(';', 1);
            Due.is("bridge()", x.bridge(), 1);
        }
        NineCats y = new NineCats();
        for (int calls = 0; calls < MOST_CALLS; calls += 2) {
            Due.is("bridge() of an empty text", y.bridge(), 0);
            Due.is("now(2)", y.now(2), 3);
        }
    }

    private static NineCats busy() {
        NineCats x = Due.told("bridge 8 3;sunny 1;fisher 12;follower 23 1;sunny 14;sun 7 2;nose 9;");
        x.drop(3);
        x.drop(20);
        x.keep(0);
        return x;
    }

    private static void eachCallAgainAndAgain() {
        again("at(2, 40)", x -> x.at(2, 40));
        again("soonest()", NineCats::soonest);
        again("step(8)", x -> x.step(8));
        again("ways(20)", x -> x.ways(20));
        again("bait(0)", x -> x.bait(0));
        again("bait(1)", x -> x.bait(1));
        again("tenth(-1)", x -> x.tenth(-1));
        again("tenth(9)", x -> x.tenth(9));
        again("close()", NineCats::close);
        again("marks(.., 20)", x -> x.marks(1 | 1 << 8 | 1 << 16 | 1 << 23, 20));
        again("mark(4, 3)", x -> x.mark(4, 3));
        again("keep(1)", x -> x.keep(1));
        again("back(0)", x -> x.back(0));
        again("bridge()", NineCats::bridge);
        again("clear()", NineCats::clear);
        again("cell(23, 0)", x -> x.cell(23, 0));
        again("enter(0) and back(0)", 2, x -> x.enter(0) + x.back(0));
        again("minutes(40) and back(0)", 2, x -> x.minutes(40) + x.back(0));
    }

    private static void again(String call, ToLongFunction<NineCats> asked) {
        again(call, 1, asked);
    }

    /** The same calls on one object, as often as an object is used: busy() took less than twenty. */
    private static void again(String call, int calls, ToLongFunction<NineCats> asked) {
        NineCats x = busy();
        int often = (MOST_CALLS - 20) / calls;
        long first = asked.applyAsLong(x);
        int others = 0;
        long before = bytesMade();
        for (int i = 1; i < often; i++) {
            others += asked.applyAsLong(x) == first ? 0 : 1;
        }
        long made = bytesMade() - before;
        Due.is("answers other than the first one of " + call, others, 0);
        Due.is("more than " + FEW_BYTES + " bytes of objects by " + call, made > FEW_BYTES ? made : 0, 0);
    }

    private static long bytesMade() {
        if (ManagementFactory.getThreadMXBean() instanceof com.sun.management.ThreadMXBean threads) {
            return threads.getThreadAllocatedBytes(Thread.currentThread().getId());
        }
        return 0;
    }
}
