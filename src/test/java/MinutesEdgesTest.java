/** The edges of minutes, fish and the walker (promises 8 to 11): each method stands for the sentence above it. */
public final class MinutesEdgesTest {
    public static void main(String[] args) {
        howMany();
        theLastMinute();
        eatenInAll();
        sunAsTheMinuteBegins();
        sunAlongTheRowAlone();
        sunToBothEnds();
        howFarItSmells();
        noseAtFirst();
        theLeastOfTheNearest();
        smellsNone();
        whereTheOtherIsThen();
        rowFirst();
        catInTheWay();
        walkerInTheWay();
        eatenBehindAllCats();
        mostFish();
        fishWhereHeStands();
        enteredRows();
        enteringRefused();
        movesToTheSides();
        movesOutAtTheEnds();
        oneColumn();
        aMinuteBehindEachStep();
        overAndOver();
        enterInTheLastMinute();
        moveInTheLastMinute();
        Due.end();
    }

    private static void cells(String when, NineCats x, int... due) {
        for (int k = 0; k < due.length; k++) {
            Due.is("cat(" + k + ", 0) " + when, x.cat(k, 0), due[k]);
        }
    }

    // minutes: "n MINUTES (1 .. 40) go by"
    private static void howMany() {
        int[] bad = {0, -1, 41, Integer.MIN_VALUE, Integer.MAX_VALUE};
        for (int n : bad) {
            Twins.unchanged("minutes(" + n + ")", () -> Due.told("fisher 2;sunny 9;"), x -> x.minutes(n), NineCats.BAD);
        }
        NineCats x = Due.told("bridge 8 1;sunny 0;sun 7 9;");
        x.minutes(1);
        Due.is("now(3) behind minutes(1)", x.now(3), 1);
        cells("behind minutes(1)", x, 1);
        x.minutes(40);
        Due.is("now(3) behind minutes(40)", x.now(3), 41);
        x.minutes(2);
        Due.is("now(3) behind minutes(2)", x.now(3), 43);
    }

    // "A MINUTE goes by (0 at first, 199 at most)"; minutes: "STATE: beyond MINUTE 199"
    private static void theLastMinute() {
        for (int n = 1; n <= 40; n += 13) {
            int many = n;
            Due.is("minutes(" + n + ") up to 199", Made.inMinute(new NineCats(), 199 - n).minutes(n), 0);
            Twins.unchanged("minutes(" + n + ") up to 200", () -> Made.inMinute(Due.told("sunny 0;"), 200 - many),
                x -> x.minutes(many), NineCats.STATE);
            Twins.unchanged("minutes(" + n + ") in 199", () -> Made.inMinute(Due.told("sunny 0;"), 199),
                x -> x.minutes(many), NineCats.STATE);
        }
        Due.is("now(3)", Made.inMinute(new NineCats(), 199).now(3), 199);
        Twins.unchanged("minutes(41) in 199", () -> Made.inMinute(new NineCats(), 199), x -> x.minutes(41), NineCats.BAD);
        Twins.unchanged("minutes(0) in 199", () -> Made.inMinute(new NineCats(), 199), x -> x.minutes(0), NineCats.BAD);
    }

    // minutes: "how much fish was eaten", in all of the n MINUTES
    private static void eatenInAll() {
        NineCats x = Due.told("bridge 8 1;fisher 0;nose 9;");
        Due.is("no fish lies", x.minutes(40), 0);
        for (int c = 1; c <= 4; c++) {
            x.drop(c);
        }
        Due.is("four in four minutes", x.minutes(4), 4);
        Due.is("cat(0, 3)", x.cat(0, 3), 4);
        Due.is("none behind it", x.minutes(4), 0);
        NineCats y = Due.told("bridge 8 1;fisher 0;nose 9;");
        for (int c = 1; c <= 4; c++) {
            y.drop(c);
        }
        Due.is("three in three minutes", y.minutes(3), 3);
        Due.is("one in forty minutes", y.minutes(40), 1);
    }

    // SUN: "towards the column over which the SUN stands as the minute begins"
    private static void sunAsTheMinuteBegins() {
        NineCats x = Due.told("bridge 3 1;sunny 1;sun 1 1;");
        int[] due = {1, 2, 1, 1, 2, 1};
        for (int t = 0; t < due.length; t++) {
            x.minutes(1);
            cells("behind minute " + t, x, due[t]);
        }
        NineCats y = Due.told("bridge 4 1;sunny 0;sun 0 2;");
        int[] slow = {0, 0, 1, 1, 2, 2, 3, 3, 2, 1, 1, 1};
        for (int t = 0; t < slow.length; t++) {
            y.minutes(1);
            cells("of PACE 2 behind minute " + t, y, slow[t]);
        }
    }

    // "(SUN: along the row alone)"; "it stays, if .. it is there itself"
    private static void sunAlongTheRowAlone() {
        for (int row = 0; row < 3; row++) {
            NineCats x = Due.told("bridge 3 3;sunny " + (row * 3 + 1) + ";sun 1 9;");
            x.minutes(9);
            cells("in the SUN's column", x, row * 3 + 1);
            x.minutes(1);
            cells("as the SUN went on", x, row * 3 + 2);
        }
    }

    private static void sunToBothEnds() {
        NineCats x = Due.told("bridge 8 2;sunny 7;sunny 8;sun 0 8;");
        x.minutes(8);
        cells("with the SUN over column 0", x, 0, 8);
        NineCats y = Due.told("bridge 8 2;sunny 0;sunny 15;sun 7 9;");
        y.minutes(9);
        cells("with the SUN over the last column", y, 7, 15);
    }

    private static int cellAt(int steps) {
        return steps <= 7 ? steps : (steps - 7) * 8 + 7;
    }

    // FISH: "(steps in row and column, NOSE at most)"; "NOSE (0 .. 9 steps)"
    private static void howFarItSmells() {
        for (int nose = 0; nose <= 9; nose++) {
            for (int steps = 1; steps <= 9; steps++) {
                NineCats x = Due.told("bridge 8 3;fisher 0;nose " + nose + ";");
                x.drop(cellAt(steps));
                x.minutes(1);
                cells("by NOSE " + nose + " with fish " + steps + " steps away", x, steps <= nose ? 1 : 0);
            }
        }
        NineCats down = Due.told("bridge 8 3;fisher 0;nose 1;");
        down.drop(8);
        Due.is("one step along the column", down.minutes(1), 1);
        NineCats aslant = Due.told("bridge 8 3;fisher 0;nose 3;");
        aslant.drop(18);
        aslant.minutes(1);
        cells("with fish two rows and two columns away", aslant, 0);
    }

    // "NOSE (.. 3 at first)"
    private static void noseAtFirst() {
        NineCats x = Due.told("fisher 0;");
        x.drop(4);
        x.minutes(1);
        cells("with fish four steps away", x, 0);
        x.drop(3);
        x.minutes(1);
        cells("with fish three steps away", x, 1);
    }

    // FISH: "towards the fish that is nearest .., of several the least CELL"
    private static void theLeastOfTheNearest() {
        int[] around = {1, 3, 5, 7};
        for (int i = 0; i < around.length; i++) {
            NineCats x = Due.told("bridge 3 3;fisher 4;nose 9;");
            for (int j = around.length - 1; j >= i; j--) {
                x.drop(around[j]);
            }
            x.minutes(1);
            cells("with " + (around.length - i) + " fish around it", x, around[i]);
        }
        NineCats corners = Due.told("bridge 3 3;fisher 4;nose 9;");
        corners.drop(6);
        corners.drop(2);
        corners.minutes(1);
        cells("with fish in 2 and 6", corners, 5);
        NineCats nearer = Due.told("bridge 3 3;fisher 8;nose 9;");
        nearer.drop(0);
        nearer.drop(7);
        nearer.minutes(1);
        cells("with the nearer fish in the greater cell", nearer, 7);
        NineCats inRows = Due.told("bridge 8 3;fisher 0;nose 9;");
        inRows.drop(4);
        inRows.drop(18);
        inRows.drop(3);
        inRows.minutes(3);
        cells("three steps are nearer than four", inRows, 3);
    }

    // FISH: "(none: it stays)"
    private static void smellsNone() {
        NineCats x = Due.told("bridge 8 3;fisher 9;nose 9;");
        x.minutes(40);
        cells("with no fish", x, 9);
        x.drop(10);
        Due.is("it eats", x.minutes(1), 1);
        x.minutes(40);
        cells("with none left", x, 10);
        NineCats y = Due.told("bridge 2 1;fisher 0;nose 0;");
        y.drop(1);
        y.minutes(40);
        cells("with NOSE 0", y, 0);
    }

    // FOLLOWS: "towards that cat, where it is then"
    private static void whereTheOtherIsThen() {
        NineCats x = Due.told("bridge 3 3;sunny 4;follower 1 0;sun 2 9;");
        x.minutes(1);
        cells("as the first went on a column", x, 5, 2);
        x.minutes(9);
        cells("as the first came back", x, 4, 1);
        x.minutes(1);
        cells("as the first came to the end", x, 3, 0);
        NineCats chain = Due.told("bridge 8 1;sunny 4;follower 3 0;follower 2 1;follower 1 2;follower 0 3;sun 7 9;");
        chain.minutes(1);
        cells("in a chain of five", chain, 5, 4, 3, 2, 1);
        chain.minutes(2);
        cells("in a chain of five", chain, 7, 6, 5, 4, 3);
        NineCats one = Due.told("bridge 5 3;sleeper 7;follower 0 0;follower 4 0;follower 10 0;follower 14 0;");
        one.minutes(40);
        cells("where four follow one", one, 7, 2, 3, 12, 13);
    }

    // "Towards: one CELL, along the row, if the column is not the same, else along the column"
    private static void rowFirst() {
        int[][] ways = {{0, 8, 1, 2, 5}, {8, 0, 7, 6, 3}, {2, 6, 1, 0, 3}, {6, 2, 7, 8, 5}};
        for (int[] way : ways) {
            NineCats x = Due.told("bridge 3 3;fisher " + way[0] + ";nose 9;");
            NineCats y = Due.told("bridge 3 3;sleeper " + way[1] + ";follower " + way[0] + " 0;");
            x.drop(way[1]);
            for (int t = 2; t < way.length; t++) {
                x.minutes(1);
                y.minutes(1);
                cells("to fish in " + way[1], x, way[t]);
                cells("behind one in " + way[1], y, way[1], way[t]);
            }
            Due.is("it eats", x.minutes(1), 1);
            y.minutes(1);
            cells("next to it", y, way[1], way[4]);
        }
    }

    // "it stays, if a cat .. is in the CELL to which it would step"
    private static void catInTheWay() {
        NineCats x = Due.told("bridge 3 3;sleeper 1;fisher 0;nose 9;");
        x.drop(8);
        x.minutes(40);
        cells("though the column is free", x, 1, 0);
        NineCats later = Due.told("bridge 4 1;sunny 0;sunny 1;sun 3 9;");
        later.minutes(1);
        cells("as the later one stood there", later, 0, 2);
        NineCats sooner = Due.told("bridge 4 1;sunny 1;sunny 0;sun 3 9;");
        sooner.minutes(1);
        cells("as the other one had gone", sooner, 2, 1);
        NineCats column = Due.told("bridge 1 3;sleeper 1;fisher 0;follower 2 1;nose 9;");
        column.minutes(40);
        cells("along the column", column, 1, 0, 2);
    }

    // "it stays, if .. the WALKER is in the CELL to which it would step"
    private static void walkerInTheWay() {
        NineCats sunny = Due.told("bridge 3 1;sunny 1;sun 0 9;");
        sunny.enter(0);
        cells("of the SUN", sunny, 1);
        sunny.minutes(8);
        cells("of the SUN", sunny, 1);
        NineCats fisher = Due.told("bridge 3 2;fisher 1;nose 9;");
        fisher.drop(0);
        fisher.enter(0);
        fisher.minutes(40);
        cells("to fish where he stands", fisher, 1);
        fisher.move(2);
        cells("as he went down", fisher, 0);
        NineCats follower = Due.told("bridge 4 2;sleeper 4;follower 1 0;");
        follower.enter(0);
        follower.minutes(40);
        cells("behind another one", follower, 4, 1);
        Due.is("back", follower.move(3), NineCats.NONE);
        cells("as he went back", follower, 4, 0);
        NineCats column = Due.told("bridge 2 3;sleeper 5;follower 1 0;");
        column.enter(1);
        column.minutes(1);
        cells("as he stands beside", column, 5, 3);
        NineCats below = Due.told("bridge 2 3;sleeper 5;follower 1 0;");
        below.enter(1);
        Due.is("he can't go where it is", below.move(0), NineCats.STATE);
    }

    // "Then, behind all cats, fish in a CELL with a cat is eaten."
    private static void eatenBehindAllCats() {
        NineCats x = Due.told("bridge 6 1;sunny 2;fisher 5;sun 3 9;nose 9;");
        x.drop(3);
        Due.is("one fish", x.minutes(1), 1);
        cells("as it lay till all had gone", x, 3, 4);
        Due.is("cat(0, 3)", x.cat(0, 3), 1);
        Due.is("cat(1, 3)", x.cat(1, 3), 0);
        NineCats y = Due.told("bridge 3 1;fisher 1;sunny 0;nose 9;sun 1 9;");
        y.drop(2);
        Due.is("it eats and goes on", y.minutes(1), 1);
        cells("behind it", y, 2, 1);
        Due.is("cat(0, 3)", y.cat(0, 3), 1);
    }

    // "FISH is DROPPED in a CELL (4 at most lie; none where one lies)"
    private static void mostFish() {
        NineCats x = Due.told("bridge 8 3;fisher 22;sleeper 0;nose 1;");
        Due.is("drop(23)", x.drop(23), 1);
        Due.is("drop(1)", x.drop(1), 2);
        Due.is("drop(2)", x.drop(2), 3);
        Due.is("drop(16)", x.drop(16), 4);
        Due.is("drop(3), four lie", x.drop(3), NineCats.FULL);
        Due.is("drop(16), four lie", x.drop(16), NineCats.STATE);
        Due.is("drop(0), four lie", x.drop(0), NineCats.STATE);
        Due.is("drop(24), four lie", x.drop(24), NineCats.BAD);
        Due.is("drop(-1), four lie", x.drop(-1), NineCats.BAD);
        Due.is("count(3)", x.count(3), 4);
        Due.is("one is eaten", x.minutes(1), 1);
        Due.is("drop(22), where a cat was", x.drop(22), 4);
        Due.is("drop(3), four lie again", x.drop(3), NineCats.FULL);
        Due.is("it is eaten", x.minutes(1), 1);
        Due.is("drop(23), where one was eaten", x.drop(23), 4);
    }

    private static void fishWhereHeStands() {
        NineCats x = Due.told("bridge 3 1;");
        x.enter(0);
        Due.is("drop(0)", x.drop(0), 1);
        Due.is("minutes(40): he does not eat", x.minutes(40), 0);
        Due.is("cell(0, 1)", x.cell(0, 1), 1);
        Due.is("cell(0, 2)", x.cell(0, 2), 1);
    }

    // "THE WALKER .. ENTERS a row: column 0"
    private static void enteredRows() {
        for (int width = 1; width <= 3; width++) {
            for (int row = 0; row < width; row++) {
                NineCats x = Due.told("bridge 8 " + width + ";");
                Due.is("enter(" + row + ")", x.enter(row), row * 8);
                Due.is("now(3)", x.now(3), 1);
            }
            int beyond = width;
            Twins.unchanged("enter(" + width + ")", () -> Due.told("bridge 8 " + beyond + ";"), x -> x.enter(beyond), NineCats.BAD);
        }
        int[] bad = {-1, Integer.MIN_VALUE, Integer.MAX_VALUE, 1 << 29};
        for (int row : bad) {
            Twins.unchanged("enter(" + row + ")", () -> Due.told("bridge 8 3;"), x -> x.enter(row), NineCats.BAD);
        }
    }

    // enter: "BAD; STATE: he is on the bridge, a cat is there, or it is MINUTE 199"
    private static void enteringRefused() {
        NineCats x = Due.told("bridge 2 2;sunny 0;sun 1 9;");
        Due.is("enter(0): it stands there ahead of the minute", x.enter(0), NineCats.STATE);
        Due.is("now(3)", x.now(3), 0);
        x.minutes(1);
        Due.is("enter(0) behind it", x.enter(0), 0);
        Due.is("enter(1), on the bridge", x.enter(1), NineCats.STATE);
        Due.is("enter(2), on the bridge", x.enter(2), NineCats.BAD);
        Due.is("now(3)", x.now(3), 2);
        x.move(3);
        Due.is("enter(1) as he went back", x.enter(1), 2);
        x.move(0);
        x.move(0);
        Due.is("enter(0) as he was OVER", x.enter(0), 0);
    }

    // move: "STATE: .. out of the bridge at its sides"
    private static void movesToTheSides() {
        for (int width = 1; width <= 3; width++) {
            NineCats x = Due.told("bridge 3 " + width + ";");
            x.enter(0);
            for (int column = 0; column < 3; column++) {
                Due.is("move(1) from row 0, column " + column, x.move(1), NineCats.STATE);
                for (int row = 1; row < width; row++) {
                    Due.is("move(2) to row " + row, x.move(2), row * 3 + column);
                }
                Due.is("move(2) from the last row, column " + column, x.move(2), NineCats.STATE);
                for (int row = width - 2; row >= 0; row--) {
                    Due.is("move(1) to row " + row, x.move(1), row * 3 + column);
                }
                Due.is("now(4)", x.now(4), column);
                Due.is("move(0)", x.move(0), column < 2 ? column + 1 : NineCats.NONE);
            }
            Due.is("now(3)", x.now(3), 1 + 3 + 6 * (width - 1));
        }
    }

    // "on from the last column he is OVER (nobody then), back from column 0 he is nobody"
    private static void movesOutAtTheEnds() {
        for (int row = 0; row < 3; row++) {
            NineCats x = Due.told("bridge 2 3;");
            x.enter(row);
            Due.is("on", x.move(0), row * 2 + 1);
            Due.is("back", x.move(3), row * 2);
            Due.is("not at all", x.move(4), row * 2);
            Due.is("back from column 0", x.move(3), NineCats.NONE);
            Due.is("now(4)", x.now(4), NineCats.NONE);
            Due.is("now(5)", x.now(5), 0);
            Due.is("move(3) of nobody", x.move(3), NineCats.STATE);
            x.enter(row);
            x.move(0);
            Due.is("not at all in the last column", x.move(4), row * 2 + 1);
            Due.is("on from the last column", x.move(0), NineCats.NONE);
            Due.is("now(4)", x.now(4), NineCats.NONE);
            Due.is("now(5)", x.now(5), 1);
            Due.is("move(0) of nobody", x.move(0), NineCats.STATE);
            Due.is("now(3)", x.now(3), 9);
        }
    }

    private static void oneColumn() {
        NineCats x = Due.told("bridge 1 3;");
        Due.is("enter(2)", x.enter(2), 2);
        Due.is("move(2)", x.move(2), NineCats.STATE);
        Due.is("move(1)", x.move(1), 1);
        Due.is("back from it", x.move(3), NineCats.NONE);
        Due.is("now(5)", x.now(5), 0);
        Due.is("enter(1)", x.enter(1), 1);
        Due.is("move(1)", x.move(1), 0);
        Due.is("move(1)", x.move(1), NineCats.STATE);
        Due.is("on from it", x.move(0), NineCats.NONE);
        Due.is("now(5)", x.now(5), 1);
        Due.is("now(3)", x.now(3), 6);
    }

    // "He comes to a CELL without a cat; then (as he is OVER, or back, too) a MINUTE goes by."
    private static void aMinuteBehindEachStep() {
        NineCats first = Due.told("bridge 3 1;sunny 1;sun 0 9;");
        first.enter(0);
        cells("as he came first", first, 1);
        NineCats left = Due.told("bridge 3 2;sunny 1;sun 0 9;");
        left.enter(0);
        left.move(2);
        cells("to where he was", left, 0);
        NineCats over = Due.told("bridge 2 2;fisher 2;nose 9;");
        over.drop(1);
        over.enter(0);
        cells("as he entered", over, 3);
        over.move(0);
        cells("as he stands on the fish", over, 3);
        Due.is("OVER", over.move(0), NineCats.NONE);
        cells("as he is OVER", over, 1);
        Due.is("cat(0, 3)", over.cat(0, 3), 1);
        NineCats back = Due.told("bridge 3 1;sunny 2;sun 0 9;");
        back.enter(0);
        back.move(4);
        cells("as he stays", back, 1);
        back.move(3);
        cells("as he went back", back, 0);
        NineCats there = Due.told("bridge 3 1;sunny 2;sun 2 9;");
        there.enter(0);
        there.move(0);
        Due.is("on to where a cat is", there.move(0), NineCats.STATE);
        Due.is("now(3)", there.now(3), 2);
    }

    // now: "5 how many were OVER"
    private static void overAndOver() {
        NineCats x = Due.told("bridge 1 1;");
        for (int times = 1; times <= 99; times++) {
            x.enter(0);
            Due.is("move(0), OVER for the " + times + ". time", x.move(0), NineCats.NONE);
            Due.is("now(5)", x.now(5), times);
        }
        Due.is("now(3)", x.now(3), 198);
        x.enter(0);
        Due.is("move(0) in minute 199", x.move(0), NineCats.STATE);
        Due.is("now(5)", x.now(5), 99);
    }

    private static void enterInTheLastMinute() {
        NineCats x = Made.inMinute(Due.told("bridge 2 2;"), 198);
        Due.is("enter(1) in 198", x.enter(1), 2);
        Due.is("now(3)", x.now(3), 199);
        Twins.unchanged("enter(1) in 199", () -> Made.inMinute(Due.told("bridge 2 2;sunny 1;"), 199), y -> y.enter(1), NineCats.STATE);
        Twins.unchanged("enter(2) in 199", () -> Made.inMinute(Due.told("bridge 2 2;sunny 1;"), 199), y -> y.enter(2), NineCats.BAD);
        Twins.unchanged("enter(-1) in 199", () -> Made.inMinute(Due.told("bridge 2 2;sunny 1;"), 199), y -> y.enter(-1), NineCats.BAD);
    }

    private static NineCats onTheBridge(int minute) {
        NineCats x = Due.told("bridge 2 2;sunny 3;sun 1 1;");
        x.enter(0);
        return Made.inMinute(x, minute);
    }

    // move: "or it is MINUTE 199"
    private static void moveInTheLastMinute() {
        int[] due = {1, NineCats.STATE, 2, NineCats.NONE, 0};
        for (int how = 0; how <= 4; how++) {
            int what = how;
            NineCats y = Due.told("bridge 2 2;");
            y.enter(0);
            Due.is("move(" + how + ") in 198", Made.inMinute(y, 198).move(how), due[how]);
            Due.is("now(3)", y.now(3), how == 1 ? 198 : 199);
            Twins.unchanged("move(" + how + ") in 199", () -> onTheBridge(199), x -> x.move(what), NineCats.STATE);
            Twins.unchanged("move(" + how + ") of nobody in 199", () -> Made.inMinute(new NineCats(), 199), x -> x.move(what), NineCats.STATE);
        }
        Twins.unchanged("move(5) in 199", () -> onTheBridge(199), x -> x.move(5), NineCats.BAD);
        Twins.unchanged("move(-1) in 199", () -> onTheBridge(199), x -> x.move(-1), NineCats.BAD);
        NineCats over = Due.told("bridge 1 1;");
        over.enter(0);
        Made.inMinute(over, 198);
        Due.is("OVER in 198", over.move(0), NineCats.NONE);
        Due.is("now(5)", over.now(5), 1);
        Due.is("now(3)", over.now(3), 199);
    }
}
