/** The edges of what is told of a bridge (promises 1, 4 to 7 and 23), from the least to the greatest one. */
public final class BridgeEdgesTest {
    private static final String MOST = "bridge 8 3;sleeper 0;sunny 7;fisher 16;follower 23 0;follower 12 3;sun 7 9;nose 9;";

    public static void main(String[] args) {
        newObject();
        noCat();
        mostCats();
        cellsNumbered();
        wholeRangeOfNumbers();
        sunOverColumns();
        paces();
        sunToTheLastMinute();
        habitsAreToldByNumber();
        eatenByEach();
        walkerInACell();
        notToldAsAtFirst();
        readAnew();
        readAnewWithNothing();
        readAnewAsHeWasOver();
        Due.end();
    }

    // "As told; no cats": LONG 5, WIDE 2, the SUN over 0, PACE 1, NOSE 3, MINUTE 0, nobody, THE TRACE 0
    private static void newObject() {
        NineCats x = new NineCats();
        asAtFirst("a new object", x);
        Due.is("trace()", x.trace(), 0);
        Due.is("back(0)", x.back(0), NineCats.STATE);
        Due.is("back(1)", x.back(1), NineCats.STATE);
        Due.is("bridge() of an empty text", x.bridge(), 0);
        asAtFirst("a new object behind bridge()", x);
        Due.isText("what is told by nothing", Look.through(x), Look.through(new NineCats()));
    }

    private static void asAtFirst(String what, NineCats x) {
        int[] counts = {5, 2, 0, 0, 0};
        for (int i = 0; i < counts.length; i++) {
            Due.is("count(" + i + ") of " + what, x.count(i), counts[i]);
        }
        int[] now = {0, 1, 3, 0, NineCats.NONE, 0};
        for (int i = 0; i < now.length; i++) {
            Due.is("now(" + i + ") of " + what, x.now(i), now[i]);
        }
        for (int c = 0; c < 10; c++) {
            Due.is("cell(" + c + ", 0) of " + what, x.cell(c, 0), NineCats.NONE);
            Due.is("cell(" + c + ", 1) of " + what, x.cell(c, 1), 0);
            Due.is("cell(" + c + ", 2) of " + what, x.cell(c, 2), 0);
        }
        Due.is("cell(10, 0) of " + what, x.cell(10, 0), NineCats.BAD);
        Due.is("cat(0, 0) of " + what, x.cat(0, 0), NineCats.BAD);
    }

    // "CATS 0 .. (5 at most)"
    private static void noCat() {
        NineCats x = Due.told("bridge 1 1;");
        Due.is("count(2)", x.count(2), 0);
        for (int what = -1; what <= 4; what++) {
            Due.is("cat(0, " + what + ")", x.cat(0, what), NineCats.BAD);
        }
        Due.is("mark(0, 0)", x.mark(0, 0), NineCats.NO);
        Due.is("at(0, 0)", x.at(0, 0), NineCats.BAD);
        Due.is("minutes(40)", x.minutes(40), 0);
    }

    private static void mostCats() {
        NineCats x = Due.told(MOST);
        int[] cells = {0, 7, 16, 23, 12};
        int[] habits = {0, 1, 2, 3, 3};
        int[] leaders = {NineCats.NONE, NineCats.NONE, NineCats.NONE, 0, 3};
        Due.is("count(2)", x.count(2), 5);
        for (int k = 0; k < 5; k++) {
            Due.is("cat(" + k + ", 0)", x.cat(k, 0), cells[k]);
            Due.is("cat(" + k + ", 1)", x.cat(k, 1), habits[k]);
            Due.is("cat(" + k + ", 2)", x.cat(k, 2), leaders[k]);
            Due.is("cat(" + k + ", 3)", x.cat(k, 3), 0);
            Due.is("cell(" + cells[k] + ", 0)", x.cell(cells[k], 0), k);
        }
        int[] none = {-1, 5, 6, 7, 8, Integer.MIN_VALUE, Integer.MAX_VALUE};
        for (int k : none) {
            Due.is("cat(" + k + ", 0)", x.cat(k, 0), NineCats.BAD);
            Due.is("at(" + k + ", 0)", x.at(k, 0), NineCats.BAD);
            Due.is("mark(0, " + k + ")", x.mark(0, k), NineCats.NO);
        }
        NineCats two = Due.told("sunny 4;sunny 9;");
        Due.is("cat(1, 0) of two", two.cat(1, 0), 9);
        Due.is("cat(2, 0) of two", two.cat(2, 0), NineCats.BAD);
    }

    // "LONG (1 .. 8) by WIDE (1 .. 3) CELLS .. numbered row by row (LONG times row and column)"
    private static void cellsNumbered() {
        for (int length = 1; length <= 8; length++) {
            for (int width = 1; width <= 3; width++) {
                NineCats x = Due.told("bridge " + length + " " + width + ";");
                String of = " of " + length + " by " + width;
                int last = length * width - 1;
                Due.is("count(0)" + of, x.count(0), length);
                Due.is("count(1)" + of, x.count(1), width);
                for (int what = 0; what <= 2; what++) {
                    Due.is("cell(last, " + what + ")" + of, x.cell(last, what), what == 0 ? NineCats.NONE : 0);
                    Due.is("cell(last + 1, " + what + ")" + of, x.cell(last + 1, what), NineCats.BAD);
                    Due.is("cell(-1, " + what + ")" + of, x.cell(-1, what), NineCats.BAD);
                }
                Due.is("drop(last)" + of, x.drop(last), 1);
                Due.is("cell(last, 1)" + of, x.cell(last, 1), 1);
                Due.is("enter(last row)" + of, x.enter(width - 1), length * (width - 1));
                Due.is("cell(.., 2)" + of, x.cell(length * (width - 1), 2), 1);
            }
        }
    }

    // BAD: "a number is not as told, or there is no such thing"
    private static void wholeRangeOfNumbers() {
        NineCats x = Due.told(MOST);
        int[] beyond = {-1, Integer.MIN_VALUE, Integer.MAX_VALUE, 256, 1 << 16, 1 << 30};
        for (int n : beyond) {
            Due.is("cat(0, " + n + ")", x.cat(0, n), NineCats.BAD);
            Due.is("cell(" + n + ", 0)", x.cell(n, 0), NineCats.BAD);
            Due.is("cell(0, " + n + ")", x.cell(0, n), NineCats.BAD);
            Due.is("now(" + n + ")", x.now(n), NineCats.BAD);
            Due.is("count(" + n + ")", x.count(n), NineCats.BAD);
        }
        Due.is("cat(4, 3)", x.cat(4, 3), 0);
        Due.is("cat(4, 4)", x.cat(4, 4), NineCats.BAD);
        Due.is("cell(23, 2)", x.cell(23, 2), 0);
        Due.is("cell(23, 3)", x.cell(23, 3), NineCats.BAD);
        Due.is("now(5)", x.now(5), 0);
        Due.is("now(6)", x.now(6), NineCats.BAD);
        Due.is("count(4)", x.count(4), 0);
        Due.is("count(5)", x.count(5), NineCats.BAD);
    }

    // SUN: "over a column at first (0 .. 7, left over by LONG; 0), and goes on one column (behind the last one 0)"
    private static void sunOverColumns() {
        for (int length = 1; length <= 8; length++) {
            for (int first = 0; first <= 7; first++) {
                NineCats x = Due.told("bridge " + length + " 1;sun " + first + " 1;");
                for (int minute = 0; minute <= 9; minute++) {
                    Due.is("now(0) in minute " + minute + " of 'bridge " + length + " 1;sun " + first + " 1;'",
                        x.now(0), (first + minute) % length);
                    x.minutes(1);
                }
            }
        }
    }

    // "after each PACE (1 .. 9; 1 at first) minutes"
    private static void paces() {
        for (int pace = 1; pace <= 9; pace++) {
            NineCats x = Due.told("bridge 3 1;sun 1 " + pace + ";");
            Due.is("now(1)", x.now(1), pace);
            int[] columns = {1, 2, 0, 1};
            for (int i = 1; i < columns.length; i++) {
                x.minutes(pace);
                Due.is("now(0) behind " + i + " paces of " + pace, x.now(0), columns[i]);
                x.keep(0);
                if (pace > 1) {
                    x.minutes(pace - 1);
                    Due.is("now(0) a minute ahead of the next pace", x.now(0), columns[i]);
                    x.back(0);
                }
            }
        }
        NineCats y = Due.told("sleeper 3;");
        y.minutes(1);
        Due.is("PACE 1, where it is not told", y.now(0), 1);
    }

    private static void sunToTheLastMinute() {
        NineCats x = Due.told("bridge 7 1;sun 6 1;");
        NineCats y = Due.told("bridge 8 1;sun 7 9;");
        for (int i = 0; i < 4; i++) {
            x.minutes(40);
            y.minutes(40);
        }
        x.minutes(39);
        y.minutes(38);
        Due.is("(6 + 199) left over by 7", x.now(0), 2);
        Due.is("(7 + 22) left over by 8 in minute 198", y.now(0), 5);
        y.minutes(1);
        Due.is("and in minute 199", y.now(0), 5);
        Due.is("now(3)", y.now(3), 199);
    }

    // HABIT: "0 SLEEPS, 1 SUN, 2 FISH, 3 FOLLOWS"; cat: "2 whom it FOLLOWS (NONE)"
    private static void habitsAreToldByNumber() {
        NineCats x = Due.told("sunny 0;follower 1 0;fisher 2;follower 3 2;sleeper 4;");
        int[] habits = {1, 3, 2, 3, 0};
        int[] leaders = {NineCats.NONE, 0, NineCats.NONE, 2, NineCats.NONE};
        for (int k = 0; k < 5; k++) {
            Due.is("cat(" + k + ", 1)", x.cat(k, 1), habits[k]);
            Due.is("cat(" + k + ", 2)", x.cat(k, 2), leaders[k]);
        }
    }

    // cat: "3 how much fish it ate", by each of the most cats, with the most fish that can lie
    private static void eatenByEach() {
        NineCats x = Due.told("bridge 6 3;fisher 0;fisher 1;fisher 2;fisher 3;fisher 17;nose 1;");
        for (int c = 6; c <= 9; c++) {
            x.drop(c);
        }
        Due.is("four eat in a minute", x.minutes(1), 4);
        Due.is("count(3)", x.count(3), 0);
        x.drop(16);
        x.drop(0);
        Due.is("two eat in a minute", x.minutes(1), 2);
        int[] eaten = {2, 1, 1, 1, 1};
        for (int k = 0; k < 5; k++) {
            Due.is("cat(" + k + ", 3)", x.cat(k, 3), eaten[k]);
            Due.is("mark(2, " + k + ")", x.mark(2, k), x.cat(k, 0) - eaten[k]);
        }
    }

    // cell: "2 whether THE WALKER is there"; now: "4 THE WALKER's CELL (NONE)"
    private static void walkerInACell() {
        NineCats x = Due.told("bridge 2 2;");
        x.enter(0);
        for (int c = 0; c < 4; c++) {
            Due.is("cell(" + c + ", 2) behind enter(0)", x.cell(c, 2), c == 0 ? 1 : 0);
        }
        Due.is("now(4)", x.now(4), 0);
        x.move(2);
        x.move(0);
        for (int c = 0; c < 4; c++) {
            Due.is("cell(" + c + ", 2) in 3", x.cell(c, 2), c == 3 ? 1 : 0);
        }
        Due.is("now(4)", x.now(4), 3);
        x.move(0);
        for (int c = 0; c < 4; c++) {
            Due.is("cell(" + c + ", 2) behind OVER", x.cell(c, 2), 0);
        }
        Due.is("now(4)", x.now(4), NineCats.NONE);
    }

    // "(what is not told as at first)": each of it by itself, behind texts that told all
    private static void notToldAsAtFirst() {
        String[] texts = {"", "bridge 7 3;", "sun 3 2;", "nose 0;", "sleeper 1;"};
        int[][] due = {{5, 2, 0, 0, 1, 3}, {7, 3, 0, 0, 1, 3}, {5, 2, 0, 3, 2, 3}, {5, 2, 0, 0, 1, 0}, {5, 2, 1, 0, 1, 3}};
        for (int i = 0; i < texts.length; i++) {
            NineCats x = new NineCats();
            for (int times = 0; times < 3; times++) {
                Due.is("bridge()", Due.bridge(x, MOST), 8);
            }
            Due.is("bridge() of '" + texts[i] + "'", Due.bridge(x, texts[i]), i == 0 ? 0 : 1);
            String behind = " behind '" + texts[i] + "'";
            Due.is("count(0)" + behind, x.count(0), due[i][0]);
            Due.is("count(1)" + behind, x.count(1), due[i][1]);
            Due.is("count(2)" + behind, x.count(2), due[i][2]);
            Due.is("now(0)" + behind, x.now(0), due[i][3]);
            Due.is("now(1)" + behind, x.now(1), due[i][4]);
            Due.is("now(2)" + behind, x.now(2), due[i][5]);
        }
    }

    private static NineCats used() {
        NineCats x = Due.told("bridge 3 2;fisher 0;sunny 5;sun 2 5;nose 9;");
        x.drop(1);
        x.enter(1);
        x.move(1);
        x.keep(0);
        x.move(3);
        x.drop(0);
        x.drop(4);
        x.keep(1);
        x.enter(1);
        x.mark(5, 0);
        return x;
    }

    // "(Read anew: MINUTE 0, cats as told .., no fish, nobody, IMAGES are gone; THE TRACE stays.)"
    private static void readAnew() {
        NineCats x = used();
        Due.is("fish lies", x.count(3), 1);
        Due.is("he is there", x.now(4), 3);
        Due.is("it ate", x.cat(0, 3), 2);
        Due.is("now(3)", x.now(3), 4);
        String again = "bridge 3 2;fisher 0;sunny 5;sun 2 5;nose 9;";
        Due.is("bridge()", Due.bridge(x, again), 5);
        Due.is("trace() stays", x.trace(), 100001);
        NineCats fresh = Due.told(again);
        fresh.mark(5, 0);
        Due.isText("what is read anew", Look.through(x), Look.through(fresh));
    }

    private static void readAnewWithNothing() {
        NineCats x = used();
        Due.is("bridge() of an empty text", x.bridge(), 0);
        asAtFirst("what is read anew with nothing", x);
        Due.is("back(0): IMAGES are gone", x.back(0), NineCats.STATE);
        Due.is("back(1): IMAGES are gone", x.back(1), NineCats.STATE);
        Due.is("trace() stays", x.trace(), 100001);
        Due.is("keep(1) of what is read anew", x.keep(1), 0);
        for (int c = 0; c < 10; c++) {
            Due.is("drop(" + c + "), where a cat or fish may have been", x.drop(c), 1);
            Due.is("back(1)", x.back(1), 0);
        }
        Due.is("back(0)", x.back(0), NineCats.STATE);
    }

    // THE TRACE alone is said to stay: how many were OVER is as at first, too
    private static void readAnewAsHeWasOver() {
        NineCats x = Due.told("bridge 1 1;");
        x.enter(0);
        x.move(0);
        Due.is("now(5)", x.now(5), 1);
        Due.is("bridge() with a fault", Due.bridge(x, "bridge"), -16);
        Due.is("now(5) behind a fault", x.now(5), 1);
        Due.is("bridge()", Due.bridge(x, "bridge 1 1;"), 1);
        Due.is("now(5) as it is read anew", x.now(5), 0);
        x.enter(0);
        x.move(0);
        Due.is("now(5)", x.now(5), 1);
    }
}
