/** Any calls with any arguments, the same each time: none throws, and what the document says of all states holds. */
public final class AnyCallsTest {
    private static final int MOST_CALLS = 512;
    private static final int[] ODD = {Integer.MIN_VALUE, Integer.MIN_VALUE + 1, -1 << 24, -256, -33, -32, -10, -9, -5, -3, -2, -1,
        0, 1, 2, 3, 4, 5, 6, 7, 8, 9, 10, 15, 16, 20, 21, 23, 24, 31, 32, 33, 39, 40, 41, 63, 64, 199, 200, 255, 256,
        1 << 23, 1 << 24, 1 << 30, Integer.MAX_VALUE - 1, Integer.MAX_VALUE};
    private static final String[] TEXTS = {"", "bridge 1 1;", "bridge 8 3;sunny 0;sunny 23;fisher 9;follower 4 2;fisher 17;sun 7 1;nose 9;",
        "fisher 0;fisher 4;follower 9 0;nose 5;", "bridge 3 3;sunny 4;follower 8 0;sun 2 3;", "bridge 1 3;fisher 1;nose 9;", "bridge 5"};

    private static long seed = 20261120;

    private static int pick(int below) {
        seed = seed * 6364136223846793005L + 1442695040888963407L;
        return (int) ((seed >>> 33) % below);
    }

    /** Mostly small, so that something happens. */
    private static int any() {
        int what = pick(10);
        return what < 7 ? pick(12) : what < 9 ? ODD[pick(ODD.length)] : (int) (seed >>> 17);
    }

    public static void main(String[] args) {
        for (int run = 0; run < 300 && Due.wrong() == 0; run++) {
            NineCats x = Due.told("");
            Due.bridge(x, TEXTS[run % TEXTS.length]);
            int own = 110;
            for (int calls = 40; calls < MOST_CALLS - own; calls++) {
                call(x, pick(24));
            }
            holds(x, "in run " + run);
        }
        Due.end();
    }

    private static long call(NineCats x, int which) {
        switch (which) {
            case 0: return x.type(seed, any());
            case 1: return x.clear();
            case 2: return pick(20) == 0 ? x.bridge() : 0;
            case 3: return x.cat(any(), any());
            case 4: return x.cell(any(), any());
            case 5: return x.now(any());
            case 6: return pick(4) == 0 ? x.minutes(any()) : x.minutes(1);
            case 7: return x.drop(any());
            case 8: return x.enter(any());
            case 9: return x.move(any());
            case 10: return x.at(any(), any());
            case 11: return x.soonest();
            case 12: return x.step(any());
            case 13: return x.ways(any());
            case 14: return x.bait(any());
            case 15: return x.tenth(any());
            case 16: return pick(10) == 0 ? x.close() : 0;
            case 17: return x.marks(any(), any());
            case 18: return x.mark(any(), any());
            case 19: return x.keep(any());
            case 20: return x.back(any());
            case 21: return x.count(any());
            case 22: return x.move(pick(5));
            default: return x.drop(pick(24));
        }
    }

    private static void isWithin(String what, int got, int least, int most) {
        Due.is(what + ": " + got + " is from " + least + " to " + most, got >= least && got <= most ? 1 : 0, 1);
    }

    /** At most 110 calls. */
    private static void holds(NineCats x, String when) {
        int cells = x.count(0) * x.count(1);
        isWithin("LONG " + when, x.count(0), 1, 8);
        isWithin("WIDE " + when, x.count(1), 1, 3);
        isWithin("cats " + when, x.count(2), 0, 5);
        isWithin("fish " + when, x.count(3), 0, 4);
        isWithin("bytes " + when, x.count(4), 0, 200);
        isWithin("the column of the SUN " + when, x.now(0), 0, x.count(0) - 1);
        isWithin("the MINUTE " + when, x.now(3), 0, 199);
        int cats = 0;
        int fish = 0;
        int walkers = 0;
        for (int c = 0; c < cells; c++) {
            boolean cat = x.cell(c, 0) != NineCats.NONE;
            cats += cat ? 1 : 0;
            fish += x.cell(c, 1);
            walkers += x.cell(c, 2);
            Due.is("fish or THE WALKER where a cat is " + when, cat ? x.cell(c, 1) + x.cell(c, 2) : 0, 0);
        }
        Due.is("no two cats in one CELL " + when, cats, x.count(2));
        Due.is("fish in CELLS " + when, fish, x.count(3));
        Due.is("THE WALKER in CELLS " + when, walkers, x.now(4) == NineCats.NONE ? 0 : 1);
    }
}
