/** The edges of what is foreseen (promises 12 to 19): each method stands for the sentence of the document above it. */
public final class WaysEdgesTest {
    private static final int NONE = NineCats.NONE, BAD = NineCats.BAD;

    public static void main(String[] args) {
        atNowAndLatest();
        atIsWhatComes();
        withoutTheWalker();
        nothingIsChanged();
        refused();
        soonestOfEmptyBridges();
        touched();
        aCellWithACatAheadOfTheMinute();
        upToForty();
        firstOfAllWays();
        stepsAreCounted();
        wayIsWalked();
        waysOfFewestMinutes();
        waysOfMostMinutes();
        waysAmongCats();
        baitIsWhatADropDoes();
        baitOfSeveral();
        baitNone();
        tenthIsAsASleeperTold();
        tenthOfAllCells();
        worstOfSeveral();
        worstNone();
        closeByNoneToThree();
        closeOfTheLeast();
        marksOfNoneToFour();
        marksOfCells();
        marksAtSomeTime();
        beyondTheLastMinute();
        Due.end();
    }

    private static NineCats busy() {
        return Made.busy("nose 1;");
    }

    // AT: "where a cat is after n (0 .. 40) minutes"
    private static void atNowAndLatest() {
        NineCats x = Due.told("bridge 8 1;sunny 0;sleeper 5;sun 7 9;");
        Due.is("at(0, 0)", x.at(0, 0), 0);
        Due.is("at(0, 1)", x.at(0, 1), 1);
        Due.is("at(0, 40)", x.at(0, 40), 3);
        Due.is("at(1, 40)", x.at(1, 40), 5);
        int[] bad = {-1, 41, Integer.MIN_VALUE, Integer.MAX_VALUE};
        for (int n : bad) {
            Twins.unchanged("at(0, " + n + ")", WaysEdgesTest::busy, y -> y.at(0, n), BAD);
            Twins.unchanged("at(" + n + ", 0)", WaysEdgesTest::busy, y -> y.at(n, 0), BAD);
        }
        Twins.unchanged("at(3, 0), of three cats", WaysEdgesTest::busy, y -> y.at(3, 0), BAD);
        Twins.unchanged("at(3, 41)", WaysEdgesTest::busy, y -> y.at(3, 41), BAD);
        Twins.unchanged("at(0, 0), no cat", NineCats::new, y -> y.at(0, 0), BAD);
    }

    private static void atIsWhatComes() {
        String[] texts = {"bridge 8 3;sunny 9;fisher 3;follower 23 1;follower 16 0;sunny 22;sun 5 3;nose 9;",
            "bridge 1 3;fisher 0;nose 9;", "bridge 4 2;sunny 0;sunny 7;follower 3 1;nose 0;"};
        for (String text : texts) {
            NineCats x = Due.told(text);
            x.drop(1);
            x.drop(2);
            x.drop(5);
            x.keep(0);
            int cats = x.count(2);
            int[][] due = new int[cats][41];
            for (int n = 0; n <= 40; n++) {
                for (int k = 0; k < cats; k++) {
                    due[k][n] = x.cat(k, 0);
                }
                x.minutes(1);
            }
            x.back(0);
            for (int k = 0; k < cats; k++) {
                for (int n = 0; n <= 40; n += n < 10 ? 1 : 3) {
                    Due.is("at(" + k + ", " + n + ") of '" + text + "'", x.at(k, n), due[k][n]);
                }
            }
        }
    }

    // "(From NOW, without THE WALKER who is there; ..)"
    private static void withoutTheWalker() {
        NineCats x = Due.told("bridge 4 1;sunny 2;sun 0 9;");
        x.enter(0);
        Due.is("cat(0, 0) as he stands there", x.cat(0, 0), 1);
        Due.is("at(0, 1): where he stands", x.at(0, 1), 0);
        x.minutes(1);
        Due.is("cat(0, 0)", x.cat(0, 0), 1);
        NineCats one = Due.told("bridge 1 1;");
        one.enter(0);
        Due.is("soonest()", one.soonest(), 2);
        Due.is("step(0)", one.step(0), 5);
        Due.is("ways(3)", one.ways(3), 2);
        Due.is("marks(1, 3)", one.marks(1, 3), 2);
        Due.is("bait(0): his CELL has neither fish nor a cat", one.bait(0), 0);
        Due.is("bait(1)", one.bait(1), 2);
        Due.is("tenth(0): his CELL is without a cat", one.tenth(0), NONE);
        Due.is("tenth(-1)", one.tenth(-1), 0);
        Due.is("close()", one.close(), 1);
    }

    // "(.. nothing is changed.)"
    private static void nothingIsChanged() {
        NineCats x = busy();
        Twins.unchanged("at(0, 40)", WaysEdgesTest::busy, y -> y.at(0, 40), x.at(0, 40));
        Twins.unchanged("soonest()", WaysEdgesTest::busy, NineCats::soonest, x.soonest());
        Twins.unchanged("step(1)", WaysEdgesTest::busy, y -> y.step(1), x.step(1));
        Twins.unchanged("ways(20)", WaysEdgesTest::busy, y -> y.ways(20), x.ways(20));
        Twins.unchanged("bait(0)", WaysEdgesTest::busy, y -> y.bait(0), x.bait(0));
        Twins.unchanged("bait(1)", WaysEdgesTest::busy, y -> y.bait(1), x.bait(1));
        Twins.unchanged("tenth(0)", WaysEdgesTest::busy, y -> y.tenth(0), x.tenth(0));
        Twins.unchanged("tenth(-1)", WaysEdgesTest::busy, y -> y.tenth(-1), x.tenth(-1));
        Twins.unchanged("close()", WaysEdgesTest::busy, NineCats::close, x.close());
        Twins.unchanged("marks(3, 20)", WaysEdgesTest::busy, y -> y.marks(3, 20), x.marks(3, 20));
    }

    // step: "BAD (i below 0)"; ways and marks: "n (1 .. 20)"; bait: 0 and 1; tenth: "BAD (a CELL with a cat, too)"
    private static void refused() {
        int[] below = {-1, -2, Integer.MIN_VALUE};
        for (int n : below) {
            Twins.unchanged("step(" + n + ")", WaysEdgesTest::busy, x -> x.step(n), BAD);
            Twins.unchanged("ways(" + n + ")", WaysEdgesTest::busy, x -> x.ways(n), BAD);
            Twins.unchanged("bait(" + n + ")", WaysEdgesTest::busy, x -> x.bait(n), BAD);
            Twins.unchanged("marks(0, " + n + ")", WaysEdgesTest::busy, x -> x.marks(0, n), BAD);
            Twins.unchanged("marks(" + n + ", 20)", WaysEdgesTest::busy, x -> x.marks(n, 20), BAD);
            Twins.unchanged("tenth(" + (n == -1 ? -3 : n) + ")", WaysEdgesTest::busy, x -> x.tenth(n == -1 ? -3 : n), BAD);
        }
        int[] above = {21, 40, Integer.MAX_VALUE};
        for (int n : above) {
            Twins.unchanged("ways(" + n + ")", WaysEdgesTest::busy, x -> x.ways(n), BAD);
            Twins.unchanged("marks(0, " + n + ")", WaysEdgesTest::busy, x -> x.marks(0, n), BAD);
            Twins.unchanged("bait(" + n + ")", WaysEdgesTest::busy, x -> x.bait(n), BAD);
            Twins.unchanged("tenth(" + n + ")", WaysEdgesTest::busy, x -> x.tenth(n), BAD);
        }
        Twins.unchanged("ways(0)", WaysEdgesTest::busy, x -> x.ways(0), BAD);
        Twins.unchanged("marks(0, 0)", WaysEdgesTest::busy, x -> x.marks(0, 0), BAD);
        Twins.unchanged("bait(2)", WaysEdgesTest::busy, x -> x.bait(2), BAD);
        Twins.unchanged("tenth(12)", WaysEdgesTest::busy, x -> x.tenth(12), BAD);
        NineCats full = new NineCats();
        for (int c = 0; c < 4; c++) {
            full.drop(c);
        }
        Due.is("bait(2), four lie", full.bait(2), BAD);
        Due.is("bait(-1), four lie", full.bait(-1), BAD);
        NineCats shut = Due.told("bridge 2 1;sleeper 0;sleeper 1;");
        Due.is("step(-1), no WAY", shut.step(-1), BAD);
        Due.is("tenth(0), no CELL is free", shut.tenth(0), BAD);
        Due.is("tenth(2), no CELL is free", shut.tenth(2), BAD);
        Due.is("tenth(-2), no CELL is free", shut.tenth(-2), BAD);
    }

    // SOONEST: "the fewest minutes of a WAY": each column and the one to be OVER; WAYS: no fewer, and each row by itself
    private static void soonestOfEmptyBridges() {
        for (int length = 1; length <= 8; length++) {
            for (int width = 1; width <= 3; width++) {
                NineCats x = Due.told("bridge " + length + " " + width + ";");
                String of = " of " + length + " by " + width;
                Due.is("soonest()" + of, x.soonest(), length + 1);
                Due.is("ways(" + length + ")" + of, x.ways(length), 0);
                Due.is("ways(" + (length + 1) + ")" + of, x.ways(length + 1), width);
                Due.is("step(0)" + of, x.step(0), 5);
                Due.is("step(" + length + ")" + of, x.step(length), 0);
                Due.is("step(" + (length + 1) + ")" + of, x.step(length + 1), -5);
                Due.is("close()" + of, x.close(), width);
                Due.is("tenth(-1)" + of, x.tenth(-1), 0);
                Due.is("bait(0)" + of, x.bait(0), 0);
                Due.is("bait(1)" + of, x.bait(1), length + 1);
            }
        }
    }

    // "he is touched, if a cat comes to his CELL, or if he and a cat change CELLS"
    private static void touched() {
        NineCats comes = Due.told("bridge 2 1;sunny 1;sun 0 1;");
        Due.is("a cat comes to the CELL that he would enter", comes.soonest(), NONE);
        NineCats enters = Due.told("bridge 1 3;sunny 2;follower 0 0;");
        // it goes from 0 to 1 in the first minute: 1 is touched, 0 is not free as yet, so he waits
        Due.is("soonest()", enters.soonest(), 3);
        Due.is("step(0)", enters.step(0), 8);
        Due.is("step(1)", enters.step(1), 5);
        Due.is("step(2)", enters.step(2), 0);
        NineCats change = Due.told("bridge 3 2;sunny 2;sleeper 3;sleeper 5;sun 0 9;");
        // he could only go on as it comes along the row, past 4 alone, which leads to nothing but 1
        Due.is("ways(4): they change CELLS", change.ways(4), 0);
        Due.is("ways(2) of a cat that stays in the last column", Due.told("bridge 1 2;sleeper 1;").ways(2), 1);
    }

    // "he comes to a CELL without a cat as cats are ahead of that minute, too"
    private static void aCellWithACatAheadOfTheMinute() {
        NineCats x = Due.told("bridge 1 2;fisher 0;nose 1;");
        x.drop(1);
        // it goes from 0 to 1 in the first minute: he may come neither to 1 nor to 0 as yet
        Due.is("ways(2)", x.ways(2), 0);
        Due.is("soonest()", x.soonest(), 3);
        Due.is("step(0)", x.step(0), 8);
        Due.is("step(1)", x.step(1), 5);
        NineCats turns = Due.told("bridge 2 2;sunny 0;sleeper 3;sun 1 1;");
        Due.is("soonest(): it leaves 0 or comes there each minute", turns.soonest(), NONE);
    }

    // SOONEST: "NONE: not by 40"
    private static void upToForty() {
        NineCats x = Due.told("bridge 5 2;sleeper 9;fisher 6;fisher 7;sunny 4;sunny 5;sun 6 9;");
        Due.is("soonest(): 41 are too many", x.soonest(), NONE);
        Due.is("step(0)", x.step(0), NONE);
        Due.is("step(40)", x.step(40), NONE);
        Due.is("step(most)", x.step(Integer.MAX_VALUE), NONE);
        Due.is("close()", x.close(), 0);
        x.minutes(1);
        Due.is("soonest(): 40", x.soonest(), 40);
        Due.is("close()", x.close(), 1);
        // he follows the cat along row 0, going back and on where he has to wait, as 3 is ahead of 4
        int[] way = {5, 4, 4, 4, 4, 4, 4, 4, 4, 0, 3, 0, 3, 0, 3, 0, 3, 0, 0, 3, 0, 3, 0, 3, 0, 3, 0, 0,
            2, 1, 2, 1, 2, 1, 2, 4, 4, 1, 0, 0};
        steps("of forty", x, way);
    }

    private static void steps(String what, NineCats x, int... way) {
        Due.is("soonest() " + what, x.soonest(), way.length);
        for (int i = 0; i < way.length; i++) {
            Due.is("step(" + i + ") " + what, x.step(i), way[i]);
        }
        Due.is("step(" + way.length + ") " + what, x.step(way.length), -5);
    }

    // STEP: "of all such ways the first (minute by minute: ENTERS rows 0, 1, 2 as 5, 6, 7, ahead of waiting 8; MOVES as they are)"
    private static void firstOfAllWays() {
        steps("of an empty bridge", Due.told("bridge 2 3;"), 5, 0, 0);
        steps("by row 1", Due.told("bridge 2 3;sleeper 0;"), 6, 0, 0);
        steps("by row 2", Due.told("bridge 2 3;sleeper 0;sleeper 2;"), 7, 0, 0);
        steps("by row 1, as row 0 ends", Due.told("bridge 2 2;sleeper 1;"), 6, 0, 0);
        steps("with back", Due.told("bridge 3 2;sun 2 3;sleeper 5;sunny 1;"), 5, 0, 2, 3, 0, 1, 0, 0);
        steps("with a row less", Due.told("bridge 2 3;sun 1 3;sunny 4;follower 0 0;"), 6, 1, 0, 0);
        steps("with a row more", Due.told("bridge 2 3;sun 0 1;sleeper 1;follower 4 0;"), 6, 2, 0, 0);
        steps("entering ahead of waiting", Due.told("bridge 3 2;sun 1 2;sunny 1;sleeper 3;"), 5, 4, 4, 0, 2, 0, 0);
        steps("with waiting", Due.told("bridge 3 2;sun 1 2;sleeper 3;sunny 0;"), 8, 5, 4, 0, 2, 0, 0);
        steps("by row 2 ahead of waiting", Due.told("bridge 2 3;sun 1 2;sleeper 5;sunny 2;follower 0 0;"), 7, 1, 1, 0, 0);
        steps("on ahead of a row more", Due.told("bridge 4 2;sleeper 3;sleeper 4;"), 5, 0, 0, 2, 0, 0);
        steps("on ahead of a row less", Due.told("bridge 4 2;sleeper 0;sleeper 7;"), 6, 0, 0, 1, 0, 0);
        steps("by row 1, as a cat comes along row 0", Due.told("bridge 3 2;sun 2 1;sunny 2;"), 6, 0, 0, 0);
        steps("by row 2, as a cat comes along row 0", Due.told("bridge 4 3;sun 1 2;sunny 3;sleeper 7;sleeper 5;"), 7, 0, 0, 0, 0);
        steps("a row less ahead of a row more", Due.told("bridge 3 3;sleeper 0;sleeper 6;sleeper 5;"), 6, 0, 1, 0, 0);
        steps("a row more alone", Due.told("bridge 3 3;sleeper 0;sleeper 6;sleeper 5;sleeper 2;"), 6, 0, 2, 0, 0);
    }

    // step: "-5: not so many; NONE"
    private static void stepsAreCounted() {
        NineCats x = Due.told("bridge 1 1;");
        Due.is("step(0)", x.step(0), 5);
        Due.is("step(1)", x.step(1), 0);
        Due.is("step(2)", x.step(2), -5);
        Due.is("step(40)", x.step(40), -5);
        Due.is("step(most)", x.step(Integer.MAX_VALUE), -5);
        NineCats none = Due.told("bridge 1 1;sleeper 0;");
        Due.is("step(0)", none.step(0), NONE);
        Due.is("step(39)", none.step(39), NONE);
        Due.is("step(40)", none.step(40), NONE);
        Due.is("step(most)", none.step(Integer.MAX_VALUE), NONE);
    }

    /** As no cat wants a cell where he is, what was foreseen comes true step by step. */
    private static void wayIsWalked() {
        String[] texts = {"bridge 3 2;sun 1 2;sleeper 3;sunny 0;", "bridge 3 2;sun 2 3;sleeper 5;sunny 1;",
            "bridge 2 3;sun 1 2;sleeper 5;sunny 2;follower 0 0;", "bridge 5 3;sunny 2;sunny 11;sleeper 9;sun 3 2;",
            "bridge 8 3;sunny 2;sunny 21;sleeper 12;sun 3 2;"};
        for (String text : texts) {
            NineCats x = Due.told(text);
            int whole = x.soonest();
            int[] way = new int[Math.max(whole, 0)];
            for (int i = 0; i < way.length; i++) {
                way[i] = x.step(i);
            }
            for (int how : way) {
                if (how == 8) {
                    x.minutes(1);
                } else if (how >= 5) {
                    Due.is("enter() in '" + text + "'", x.enter(how - 5), x.now(4));
                } else {
                    Due.is("move() in '" + text + "'", x.move(how), x.now(4));
                }
            }
            Due.is("now(3) of '" + text + "'", x.now(3), whole);
            Due.is("now(5) of '" + text + "'", x.now(5), 1);
        }
    }

    // WAYS of "n (1 .. 20) minutes: how many there are (without a touch, OVER just then)"
    private static void waysOfFewestMinutes() {
        Due.is("ways(1) of one CELL", Due.told("bridge 1 1;").ways(1), 0);
        Due.is("ways(2) of one CELL", Due.told("bridge 1 1;").ways(2), 1);
        Due.is("ways(1)", new NineCats().ways(1), 0);
        Due.is("ways(1), shut", Due.told("bridge 1 1;sleeper 0;").ways(1), 0);
        Due.is("ways(20), shut", Due.told("bridge 1 1;sleeper 0;").ways(20), 0);
    }

    private static void waysOfMostMinutes() {
        Due.is("ways(20) of one CELL", Due.told("bridge 1 1;").ways(20), 19);
        Due.is("ways(20) of two CELLS", Due.told("bridge 2 1;").ways(20), (1 << 18) - 1);
        for (int[] size : new int[][] {{1, 3}, {3, 3}, {4, 3}, {8, 1}, {8, 3}}) {
            NineCats x = Due.told("bridge " + size[0] + " " + size[1] + ";");
            for (int n = 1; n <= 20; n++) {
                Due.is("ways(" + n + ") of " + size[0] + " by " + size[1], x.ways(n), waysThroughEmpty(size[0], size[1], n));
            }
        }
    }

    /** By how many ways he is in each cell, minute by minute, with a rim of cells that none comes to. */
    private static long waysThroughEmpty(int length, int width, int n) {
        long[][] here = new long[width + 2][length + 2];
        for (int t = 1; t < n; t++) {
            long[][] next = new long[width + 2][length + 2];
            for (int r = 1; r <= width; r++) {
                for (int c = 1; c <= length; c++) {
                    next[r][c] = here[r][c] + here[r - 1][c] + here[r + 1][c] + here[r][c - 1] + here[r][c + 1] + (c == 1 ? 1 : 0);
                }
            }
            here = next;
        }
        long sum = 0;
        for (int r = 1; r <= width; r++) {
            sum += here[r][length];
        }
        return sum;
    }

    private static void waysAmongCats() {
        NineCats x = Due.told("bridge 3 2;sun 1 2;sunny 1;sleeper 3;");
        // he enters in minute 0, 1 or 2 and stays, and goes by 1, 4 and 5
        Due.is("ways(6)", x.ways(6), 0);
        Due.is("ways(7)", x.ways(7), 3);
        NineCats y = Due.told("bridge 2 3;sun 1 2;sleeper 5;sunny 2;follower 0 0;");
        Due.is("ways(4)", y.ways(4), 0);
        Due.is("ways(5)", y.ways(5), 4);
    }

    private static int rank(int soonest) {
        return soonest == NONE ? 99 : soonest;
    }

    // BAIT: "the CELL without fish or a cat by which, if one is dropped there now, SOONEST is least .., of several the least; .. SOONEST then"
    private static void baitIsWhatADropDoes() {
        String[] texts = {"bridge 4 2;fisher 2;sleeper 5;nose 9;", "bridge 5 2;fisher 2;fisher 7;nose 2;",
            "bridge 5 3;fisher 7;sleeper 2;sleeper 12;nose 9;", "bridge 6 2;sleeper 3;fisher 9;follower 8 1;nose 4;"};
        for (String text : texts) {
            for (int lie = 0; lie <= 3; lie++) {
                NineCats x = Due.told(text);
                int cells = x.count(0) * x.count(1);
                for (int i = 0; i < lie; i++) {
                    x.drop(cells - 1 - i);
                }
                x.keep(0);
                int best = NONE;
                int least = 100;
                for (int c = 0; c < cells; c++) {
                    int had = x.count(3);
                    if (x.drop(c) == had + 1) {
                        int minutes = rank(x.soonest());
                        best = minutes < least ? c : best;
                        least = Math.min(least, minutes);
                    }
                    x.back(0);
                }
                Due.is("bait(0) of '" + text + "' with " + x.count(3) + " fish", x.bait(0), best);
                Due.is("bait(1) of '" + text + "' with " + x.count(3) + " fish", rank(x.bait(1)), least);
            }
        }
    }

    // BAIT: "(NONE is most; the least CELL, if it is NONE by all), of several the least"
    private static void baitOfSeveral() {
        NineCats x = Due.told("bridge 4 2;fisher 2;sleeper 5;nose 9;");
        Due.is("soonest()", x.soonest(), NONE);
        Due.is("bait(0): by 6 and 7 it is 5", x.bait(0), 6);
        Due.is("bait(1)", x.bait(1), 5);
        NineCats shut = Due.told("bridge 3 1;sleeper 1;");
        Due.is("bait(0), NONE by all", shut.bait(0), 0);
        Due.is("bait(1), NONE by all", shut.bait(1), NONE);
        NineCats first = Due.told("bridge 3 1;sleeper 0;");
        Due.is("bait(0), NONE by all and a cat in 0", first.bait(0), 1);
        NineCats last = Due.told("bridge 3 1;sleeper 0;sleeper 1;");
        Due.is("bait(0) of the last CELL", last.bait(0), 2);
        Due.is("bait(1)", last.bait(1), NONE);
        NineCats lies = new NineCats();
        lies.drop(0);
        lies.drop(1);
        Due.is("bait(0), fish in 0 and 1", lies.bait(0), 2);
        Due.is("bait(1)", lies.bait(1), 6);
    }

    // BAIT: "NONE: there is no such CELL, or four lie"
    private static void baitNone() {
        NineCats x = new NineCats();
        for (int c = 9; c > 6; c--) {
            x.drop(c);
        }
        Due.is("bait(0), three lie", x.bait(0), 0);
        Due.is("bait(1), three lie", x.bait(1), 6);
        x.drop(6);
        Due.is("bait(0), four lie", x.bait(0), NONE);
        Due.is("bait(1), four lie", x.bait(1), NONE);
        NineCats full = Due.told("bridge 2 2;sleeper 0;sleeper 1;sleeper 2;");
        Due.is("bait(0), one CELL", full.bait(0), 3);
        full.drop(3);
        Due.is("bait(0), fish lies in the last CELL", full.bait(0), NONE);
        Due.is("bait(1), fish lies in the last CELL", full.bait(1), NONE);
        NineCats cats = Due.told("bridge 5 1;sleeper 0;sleeper 1;sleeper 2;sleeper 3;sleeper 4;");
        Due.is("bait(0), cats in all CELLS", cats.bait(0), NONE);
        Due.is("bait(1), cats in all CELLS", cats.bait(1), NONE);
    }

    // TENTH: "SOONEST, if a cat more sleeps in a CELL (without a cat)"
    private static void tenthIsAsASleeperTold() {
        String[] texts = {"bridge 8 3;sleeper 11;sunny 2;fisher 20;", "bridge 4 2;sunny 3;sunny 4;sun 1 3;", "bridge 1 3;",
            "bridge 5 2;sunny 4;follower 9 0;fisher 7;sun 2 2;", "bridge 3 3;sunny 4;sleeper 1;sun 2 5;"};
        for (String text : texts) {
            NineCats x = Due.told(text);
            int cells = x.count(0) * x.count(1);
            int worst = NONE;
            int most = 0;
            for (int c = 0; c < cells; c++) {
                if (x.cell(c, 0) == NONE) {
                    int due = Due.told(text + "sleeper " + c + ";").soonest();
                    Due.is("tenth(" + c + ") of '" + text + "'", x.tenth(c), due);
                    worst = rank(due) > most ? c : worst;
                    most = Math.max(most, rank(due));
                } else {
                    Due.is("tenth(" + c + ") of '" + text + "'", x.tenth(c), BAD);
                }
            }
            Due.is("tenth(-1) of '" + text + "'", x.tenth(-1), worst);
            Due.is("tenth(" + cells + ") of '" + text + "'", x.tenth(cells), BAD);
            Due.is("tenth(-2) of '" + text + "'", x.tenth(-2), BAD);
        }
    }

    private static void tenthOfAllCells() {
        NineCats five = Due.told("bridge 3 3;sleeper 0;sleeper 1;sleeper 2;sleeper 6;sleeper 7;");
        Due.is("a sixth cat in 3", five.tenth(3), NONE);
        Due.is("a sixth cat in 8", five.tenth(8), 4);
        Due.is("tenth(-1) of five", five.tenth(-1), 3);
        NineCats eaten = Due.told("bridge 4 2;fisher 4;nose 9;");
        eaten.drop(3);
        Due.is("tenth(3): fish in a CELL with a cat is eaten", eaten.tenth(3), 6);
    }

    // WORST: "the CELL for it by which SOONEST is most (NONE is most), of several the least"
    private static void worstOfSeveral() {
        Due.is("all the same", Due.told("bridge 1 3;").tenth(-1), 0);
        Due.is("all NONE", Due.told("bridge 4 1;").tenth(-1), 0);
        Due.is("all NONE, a cat in 0", Due.told("bridge 4 1;sleeper 0;").tenth(-1), 1);
        Due.is("NONE by 4 and 5, more minutes by others", Due.told("bridge 4 2;sleeper 1;").tenth(-1), 4);
        Due.is("NONE by 5, 6 and 7", Due.told("bridge 4 2;sleeper 3;sleeper 2;").tenth(-1), 5);
        Due.is("the last CELL alone", Due.told("bridge 2 3;sleeper 1;sleeper 3;").tenth(-1), 4);
        Due.is("one CELL is free", Due.told("bridge 3 1;sleeper 0;sleeper 1;").tenth(-1), 2);
    }

    // WORST: "NONE: no CELL is free"
    private static void worstNone() {
        Due.is("one CELL", Due.told("bridge 1 1;sleeper 0;").tenth(-1), NONE);
        Due.is("five CELLS", Due.told("bridge 5 1;sleeper 0;sunny 1;fisher 2;sunny 3;sunny 4;").tenth(-1), NONE);
        Due.is("close() there", Due.told("bridge 5 1;sleeper 0;sunny 1;fisher 2;sunny 3;sunny 4;").close(), 0);
    }

    // CLOSE: "the fewest such cats (0 .. 3) by which there is NONE"
    private static void closeByNoneToThree() {
        Due.is("close() by none", Due.told("bridge 8 1;sleeper 7;").close(), 0);
        Due.is("close() by one", Due.told("bridge 8 1;").close(), 1);
        Due.is("close() by two", Due.told("bridge 8 2;").close(), 2);
        Due.is("close() by three", Due.told("bridge 8 3;").close(), 3);
        Due.is("close() of 1 by 1", Due.told("bridge 1 1;").close(), 1);
        Due.is("close() of 1 by 2", Due.told("bridge 1 2;").close(), 2);
        Due.is("close() of 1 by 3", Due.told("bridge 1 3;").close(), 3);
        Due.is("close() of 1 by 3 beside two", Due.told("bridge 1 3;sleeper 0;sleeper 2;").close(), 1);
    }

    private static void closeOfTheLeast() {
        Due.is("by the last CELL", Due.told("bridge 3 2;sleeper 2;").close(), 1);
        Due.is("aslant", Due.told("bridge 8 3;sleeper 3;sleeper 20;").close(), 1);
        Due.is("aslant, with one", Due.told("bridge 3 3;sleeper 4;").close(), 2);
        Due.is("with five that stay", Due.told("bridge 8 3;fisher 0;fisher 1;fisher 2;fisher 3;fisher 4;").close(), 2);
    }

    // marks: "BAD (more than 4 of them, too)"
    private static void marksOfNoneToFour() {
        NineCats x = Due.told("bridge 8 3;");
        int set = 0;
        for (int many = 0; many <= 24; many++) {
            Due.is("marks() of " + many + " CELLS", x.marks(set, 1), many <= 4 ? 0 : BAD);
            set = set << 1 | 1;
        }
        Due.is("marks() of the last four", x.marks(0xf << 20, 20) > 0 ? 1 : 0, 1);
        Due.is("marks() of the last five", x.marks(0x1f << 19, 20), BAD);
        Due.is("marks() of five apart", x.marks(1 | 1 << 5 | 1 << 9 | 1 << 17 | 1 << 23, 20), BAD);
        Due.is("marks() of four and one beyond", x.marks(0xf | 1 << 24, 20), BAD);
    }

    // MARKS "(bits of CELLS)": each CELL has one, and there are no others
    private static void marksOfCells() {
        int[][] sizes = {{1, 1}, {5, 2}, {8, 1}, {7, 3}, {8, 3}};
        for (int[] size : sizes) {
            NineCats x = Due.told("bridge " + size[0] + " " + size[1] + ";");
            int cells = size[0] * size[1];
            for (int c = 0; c < 32; c++) {
                Due.is("marks(1 << " + c + ", " + (size[0] + 1) + ") of " + size[0] + " by " + size[1],
                    x.marks(1 << c, size[0] + 1), c < cells ? 1 : BAD);
            }
            Due.is("marks(0, 1)", x.marks(0, 1), 0);
            Due.is("marks(1, 1)", x.marks(1, 1), 0);
            Due.is("marks(0, 20)", x.marks(0, 20), x.ways(20));
        }
        NineCats cat = Due.told("bridge 2 2;sleeper 1;");
        Due.is("marks() of a CELL where a cat sleeps", cat.marks(2, 20), 0);
        Due.is("marks() of its last CELL", cat.marks(8, 20), cat.ways(20));
        NineCats goes = Due.told("bridge 1 2;sleeper 1;");
        goes.enter(0);
        Due.is("marks() of the CELL of THE WALKER", goes.marks(1, 2), 1);
    }

    // MARKS: "in how many WAYS of n minutes he is in each of these CELLS at some time"
    private static void marksAtSomeTime() {
        NineCats row = Due.told("bridge 8 1;");
        for (int n = 9; n <= 20; n++) {
            Due.is("marks(15, " + n + ") in one row", row.marks(15, n), row.ways(n));
            Due.is("marks(0xf0, " + n + ") in one row", row.marks(0xf0, n), row.ways(n));
        }
        NineCats x = Due.told("bridge 1 2;");
        // 0, 1; he is in both if he changes the row at least once: 2, 3 and 4 minutes on the bridge
        Due.is("marks(1, 2)", x.marks(1, 2), 1);
        Due.is("marks(3, 2)", x.marks(3, 2), 0);
        Due.is("marks(1, 3)", x.marks(1, 3), 1 + 3);
        Due.is("marks(3, 3)", x.marks(3, 3), 2);
        Due.is("marks(3, 4)", x.marks(3, 4), 2 + 6);
        Due.is("marks(1, 4)", x.marks(1, 4), 1 + 3 + 7);
        NineCats y = Due.told("bridge 1 3;");
        Due.is("marks(7, 4)", y.marks(7, 4), 2);
        Due.is("marks(5, 4)", y.marks(5, 4), 2);
        Due.is("marks(5, 3)", y.marks(5, 3), 0);
    }

    // SOONEST: "(MINUTE 199 does not matter)"
    private static void beyondTheLastMinute() {
        NineCats x = Made.inMinute(Due.told("bridge 3 2;sunny 2;sleeper 5;sun 0 9;"), 199);
        // the SUN stands over column 1 from minute 198 to 206, and over 2 from 207 on
        Due.is("now(0)", x.now(0), 1);
        Due.is("at(0, 0)", x.at(0, 0), 1);
        Due.is("at(0, 8)", x.at(0, 8), 1);
        Due.is("at(0, 9)", x.at(0, 9), 2);
        Due.is("at(0, 40)", x.at(0, 40), 2);
        NineCats y = Made.inMinute(Due.told("bridge 4 2;sleeper 0;"), 199);
        NineCats fresh = Due.told("bridge 4 2;sleeper 0;");
        Due.is("soonest() in 199", y.soonest(), 5);
        Due.is("step(0) in 199", y.step(0), 6);
        Due.is("ways(20) in 199", y.ways(20), fresh.ways(20));
        Due.is("marks(6, 20) in 199", y.marks(6, 20), fresh.marks(6, 20));
        Due.is("bait(0) in 199", y.bait(0), 1);
        Due.is("bait(1) in 199", y.bait(1), 5);
        Due.is("tenth(4) in 199", y.tenth(4), NONE);
        Due.is("tenth(-1) in 199", y.tenth(-1), 4);
        Due.is("close() in 199", y.close(), 1);
        Due.is("now(3)", y.now(3), 199);
    }
}
