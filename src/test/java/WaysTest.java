/** Promises 12 to 19: where cats will be, ways over, bait and cats more. */
public final class WaysTest {
    public static void main(String[] args) {
        at();
        soonest();
        atTheForty();
        steps();
        ways();
        bait();
        tenth();
        close();
        marks();
        nothingChanges();
        Due.end();
    }

    private static void at() {
        NineCats x = Due.told("bridge 6 1;fisher 2;sunny 5;sun 4 9;nose 9;");
        x.drop(0);
        Due.is("at(0, 0)", x.at(0, 0), 2);
        Due.is("at(0, 1)", x.at(0, 1), 1);
        Due.is("at(0, 2)", x.at(0, 2), 0);
        Due.is("at(0, 40)", x.at(0, 40), 0);
        Due.is("at(1, 1)", x.at(1, 1), 4);
        Due.is("at(2, 0)", x.at(2, 0), NineCats.BAD);
        Due.is("at(-1, 0)", x.at(-1, 0), NineCats.BAD);
        Due.is("at(0, -1)", x.at(0, -1), NineCats.BAD);
        Due.is("at(0, 41)", x.at(0, 41), NineCats.BAD);
        NineCats y = Due.told("bridge 4 1;sunny 2;sun 0 9;");
        y.enter(0);
        Due.is("the walker is not there for at", y.at(0, 1), 0);
        y.minutes(1);
        Due.is("but for minutes", y.cat(0, 0), 1);
        NineCats z = Due.told("bridge 7 1;sunny 0;");
        for (int i = 0; i < 4; i++) {
            z.minutes(40);
        }
        z.minutes(39);
        z.keep(0);
        // the sun stands over (199 + t) mod 7 and the cat in 1
        Due.is("cat(0, 0) in minute 199", z.cat(0, 0), 3);
        Due.is("at(0, 1) in minute 199", z.at(0, 1), 3);
        Due.is("at(0, 2) in minute 199", z.at(0, 2), 4);
    }

    private static void soonest() {
        Due.is("one cell", Due.told("bridge 1 1;").soonest(), 2);
        Due.is("eight cells", Due.told("bridge 8 1;").soonest(), 9);
        Due.is("closed", Due.told("bridge 8 1;sleeper 7;").soonest(), NineCats.NONE);
        Due.is("round a cat", Due.told("bridge 3 2;sleeper 0;sleeper 5;").soonest(), 5);
        Due.is("a row more", Due.told("bridge 4 2;sleeper 0;sleeper 7;").soonest(), 6);
        Due.is("without the walker", walkerInTheWay().soonest(), 3);
        // the cat goes on ahead of him; he waits till it has left column 0 and follows it out
        Due.is("no changing of cells", Due.told("bridge 2 1;sunny 1;sun 0 9;").soonest(), NineCats.NONE);
        // cells of column 0 are free in minute 0, and a cat comes there as he would
        Due.is("a cat comes to his cell", Due.told("bridge 2 1;sunny 1;sun 0 1;").soonest(), NineCats.NONE);
        NineCats late = Due.told("bridge 1 2;sleeper 0;fisher 1;");
        Due.is("all cells are taken", late.soonest(), NineCats.NONE);
        NineCats leaves = Due.told("bridge 2 2;sleeper 2;fisher 0;");
        leaves.drop(3);
        // minute 1: it goes to 1, and to 3 in minute 2: he enters in minute 2, to 1 in minute 3
        Due.is("waiting is worth it", leaves.soonest(), 4);
        Due.is("he waits", leaves.step(0), 8);
        Due.is("he enters", leaves.step(1), 5);
        Due.is("he goes on", leaves.step(2), 0);
        Due.is("he is over", leaves.step(3), 0);
        Due.is("no more", leaves.step(4), -5);
    }

    /** A cat goes with the sun through row 0; he stands aside in 8, and it is by only in minute 38. */
    private static void atTheForty() {
        NineCats x = Due.told("bridge 5 2;sleeper 9;fisher 6;fisher 7;sunny 4;sunny 5;sun 6 9;");
        Due.is("41 minutes are too many", x.soonest(), NineCats.NONE);
        Due.is("step(0)", x.step(0), NineCats.NONE);
        x.minutes(1);
        Due.is("40 minutes", x.soonest(), 40);
        Due.is("step(38)", x.step(38), 0);
        Due.is("step(39)", x.step(39), 0);
        Due.is("step(40)", x.step(40), -5);
        x.minutes(1);
        Due.is("39 minutes", x.soonest(), 39);
    }

    private static NineCats walkerInTheWay() {
        NineCats x = Due.told("bridge 2 1;");
        x.enter(0);
        return x;
    }

    private static void steps() {
        NineCats x = Due.told("bridge 3 3;sleeper 0;sleeper 7;sleeper 5;");
        // on to 1 is the only column 1 cell but 4; entering row 1, then on or a row less
        Due.is("soonest()", x.soonest(), 5);
        int[] way = {6, 0, 1, 0, 0};
        for (int i = 0; i < way.length; i++) {
            Due.is("step(" + i + ")", x.step(i), way[i]);
        }
        Due.is("step(5)", x.step(5), -5);
        Due.is("step(most)", x.step(Integer.MAX_VALUE), -5);
        Due.is("step(-1)", x.step(-1), NineCats.BAD);
        NineCats closed = Due.told("bridge 1 1;sleeper 0;");
        Due.is("step(-1), closed", closed.step(-1), NineCats.BAD);
        Due.is("step(0), closed", closed.step(0), NineCats.NONE);
        Due.is("step(50), closed", closed.step(50), NineCats.NONE);
        NineCats back = Due.told("bridge 4 3;sleeper 0;sleeper 4;sleeper 9;sleeper 6;sleeper 3;");
        Due.is("a way is shut", back.soonest(), NineCats.NONE);
        NineCats third = Due.told("bridge 2 3;sleeper 0;sleeper 2;");
        Due.is("row 2", third.step(0), 7);
    }

    private static void ways() {
        NineCats x = Due.told("bridge 2 1;");
        long[] due = {0, 0, 1, 3, 7, 15, 31};
        for (int n = 1; n <= due.length; n++) {
            Due.is("ways(" + n + ")", x.ways(n), due[n - 1]);
        }
        Due.is("ways(0)", x.ways(0), NineCats.BAD);
        Due.is("ways(21)", x.ways(21), NineCats.BAD);
        Due.is("ways(-1)", x.ways(-1), NineCats.BAD);
        NineCats one = Due.told("bridge 1 1;");
        for (int n = 2; n <= 20; n++) {
            Due.is("one cell, ways(" + n + ")", one.ways(n), n - 1);
        }
        Due.is("closed", Due.told("bridge 1 1;sleeper 0;").ways(20), 0);
    }

    private static void bait() {
        NineCats x = Due.told("bridge 3 1;fisher 1;");
        Due.is("bait(0)", x.bait(0), 0);
        Due.is("bait(1)", x.bait(1), NineCats.NONE);
        Due.is("bait(2)", x.bait(2), NineCats.BAD);
        Due.is("bait(-1)", x.bait(-1), NineCats.BAD);
        NineCats y = Due.told("bridge 4 2;fisher 2;sleeper 5;nose 9;");
        Due.is("shut as it lies", y.soonest(), NineCats.NONE);
        // by 3 it is 6 minutes, by 4 it is 8, by 6 and 7 it is 5
        Due.is("bait(0)", y.bait(0), 6);
        Due.is("bait(1)", y.bait(1), 5);
        y.drop(6);
        Due.is("soonest() behind it", y.soonest(), 5);
        NineCats full = new NineCats();
        for (int c = 0; c < 4; c++) {
            full.drop(c);
        }
        Due.is("four lie", full.bait(0), NineCats.NONE);
        Due.is("four lie", full.bait(1), NineCats.NONE);
        NineCats none = Due.told("bridge 2 1;sleeper 0;sleeper 1;");
        Due.is("no cell", none.bait(0), NineCats.NONE);
        Due.is("no cell", none.bait(1), NineCats.NONE);
        NineCats draw = Due.told("bridge 3 3;sleeper 1;sleeper 7;fisher 4;nose 1;");
        Due.is("shut by all: the least cell", draw.bait(0), 0);
        Due.is("shut by all", draw.bait(1), NineCats.NONE);
        NineCats lies = Due.told("bridge 2 2;");
        lies.drop(0);
        Due.is("the least cell without fish", lies.bait(0), 1);
        Due.is("soonest then", lies.bait(1), 3);
    }

    private static void tenth() {
        NineCats x = Due.told("bridge 4 2;sleeper 1;");
        Due.is("tenth(0)", x.tenth(0), 5);
        Due.is("tenth(1)", x.tenth(1), NineCats.BAD);
        Due.is("tenth(5)", x.tenth(5), NineCats.NONE);
        Due.is("tenth(8)", x.tenth(8), NineCats.BAD);
        Due.is("tenth(-2)", x.tenth(-2), NineCats.BAD);
        Due.is("tenth(-1)", x.tenth(-1), 4);
        Due.is("with four", Due.told("bridge 1 2;").tenth(-1), 0);
        Due.is("no cell", Due.told("bridge 2 1;sleeper 0;sleeper 1;").tenth(-1), NineCats.NONE);
        NineCats five = Due.told("bridge 3 3;sleeper 0;sleeper 1;sleeper 2;sleeper 6;sleeper 7;");
        Due.is("a sixth cat", five.tenth(3), NineCats.NONE);
        Due.is("a sixth cat", five.tenth(8), 4);
        NineCats eats = Due.told("bridge 4 2;fisher 4;nose 9;");
        eats.drop(3);
        Due.is("one that sleeps on fish eats it, so the fisher stops", eats.tenth(3), 6);
    }

    private static void close() {
        Due.is("one row", Due.told("bridge 8 1;").close(), 1);
        Due.is("two rows", Due.told("bridge 8 2;").close(), 2);
        Due.is("three rows", Due.told("bridge 8 3;").close(), 3);
        Due.is("shut", Due.told("bridge 8 1;sleeper 3;").close(), 0);
        Due.is("one lies there", Due.told("bridge 8 3;sleeper 11;").close(), 2);
        Due.is("aslant", Due.told("bridge 8 3;sleeper 3;sleeper 20;").close(), 1);
        Due.is("one column", Due.told("bridge 1 3;sunny 1;").close(), 2);
    }

    private static void marks() {
        NineCats x = Due.told("bridge 2 2;");
        Due.is("none asked", x.marks(0, 3), 2);
        Due.is("the upper row", x.marks(3, 3), 1);
        Due.is("the lower row", x.marks(12, 3), 1);
        Due.is("all of them in three", x.marks(15, 3), 0);
        // 0 2 3 1, 2 0 1 3
        Due.is("all of them in five", x.marks(15, 5), 2);
        // 0 2 3, 2 3 (waiting is not in it), 0 1 3, 2 0 1
        Due.is("0 and 3 in four", x.marks(9, 4), 2);
        Due.is("out of the bridge", x.marks(16, 4), NineCats.BAD);
        Due.is("below 0", x.marks(-1, 4), NineCats.BAD);
        Due.is("the highest", x.marks(Integer.MIN_VALUE, 4), NineCats.BAD);
        Due.is("marks(1, 0)", x.marks(1, 0), NineCats.BAD);
        Due.is("marks(1, 21)", x.marks(1, 21), NineCats.BAD);
        NineCats y = Due.told("bridge 8 3;sleeper 4;");
        Due.is("five of them", y.marks(31, 20), NineCats.BAD);
        Due.is("one with a cat", y.marks(16, 20), 0);
        Due.is("the last one", y.marks(1 << 23, 9), 1);
        Due.is("none asked", y.marks(0, 20), y.ways(20));
    }

    private static void nothingChanges() {
        NineCats x = Due.told("bridge 6 2;fisher 2;sunny 9;follower 0 0;sun 3 2;nose 9;");
        x.drop(4);
        x.enter(1);
        x.at(0, 40);
        x.soonest();
        x.step(3);
        x.ways(20);
        x.bait(0);
        x.tenth(-1);
        x.tenth(11);
        x.close();
        x.marks(5, 20);
        Due.is("now(3)", x.now(3), 1);
        Due.is("now(4)", x.now(4), 6);
        Due.is("count(2)", x.count(2), 3);
        Due.is("count(3)", x.count(3), 1);
        Due.is("cat(0, 0)", x.cat(0, 0), 3);
        Due.is("cat(0, 3)", x.cat(0, 3), 0);
        Due.is("cat(1, 0)", x.cat(1, 0), 9);
        Due.is("cat(2, 0)", x.cat(2, 0), 1);
        Due.is("cell(6, 2)", x.cell(6, 2), 1);
        Due.is("trace()", x.trace(), 0);
    }
}
