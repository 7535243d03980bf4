/** Promises 8 to 11: minutes, fish and the walker. */
public final class MinutesTest {
    public static void main(String[] args) {
        minutesRefused();
        sun();
        fish();
        following();
        blocking();
        eating();
        dropping();
        entering();
        moving();
        leaving();
        lastMinute();
        Due.end();
    }

    private static void minutesRefused() {
        NineCats x = new NineCats();
        Due.is("minutes(0)", x.minutes(0), NineCats.BAD);
        Due.is("minutes(-1)", x.minutes(-1), NineCats.BAD);
        Due.is("minutes(41)", x.minutes(41), NineCats.BAD);
        Due.is("minutes(most)", x.minutes(Integer.MAX_VALUE), NineCats.BAD);
        for (int i = 1; i <= 4; i++) {
            Due.is("minutes(40)", x.minutes(40), 0);
            Due.is("now(3)", x.now(3), 40 * i);
        }
        Due.is("minutes(40)", x.minutes(40), NineCats.STATE);
        Due.is("now(3)", x.now(3), 160);
        Due.is("minutes(39)", x.minutes(39), 0);
        Due.is("now(3)", x.now(3), 199);
        Due.is("minutes(1)", x.minutes(1), NineCats.STATE);
        Due.is("minutes(0)", x.minutes(0), NineCats.BAD);
    }

    private static void sun() {
        NineCats x = Due.told("bridge 4 2;sunny 4;sun 2 3;");
        int[] cells = {5, 6, 6, 7, 7, 7, 6, 5, 4, 5};
        for (int t = 0; t < cells.length; t++) {
            x.minutes(1);
            Due.is("a sunny cat's cell behind minute " + t, x.cat(0, 0), cells[t]);
        }
    }

    private static void fish() {
        NineCats x = Due.told("bridge 8 3;fisher 9;nose 4;");
        x.drop(7);
        x.minutes(1);
        Due.is("no step towards what it can't smell", x.cat(0, 0), 9);
        x.drop(21);
        x.minutes(1);
        Due.is("not yet: five steps", x.cat(0, 0), 9);
        x.drop(20);
        x.minutes(1);
        Due.is("four steps: along the row first", x.cat(0, 0), 10);
        x.minutes(3);
        Due.is("then along the column", x.cat(0, 0), 20);
        x.minutes(1);
        Due.is("then the next one", x.cat(0, 0), 21);
        NineCats y = Due.told("bridge 5 3;fisher 7;nose 9;");
        y.drop(12);
        y.drop(8);
        y.drop(6);
        y.minutes(1);
        Due.is("of several the least cell", y.cat(0, 0), 6);
        NineCats z = Due.told("bridge 5 3;fisher 12;nose 9;sleeper 11;");
        z.drop(2);
        z.drop(0);
        z.minutes(1);
        Due.is("the nearest, up the column", z.cat(0, 0), 7);
        NineCats n = Due.told("fisher 0;nose 0;");
        n.drop(1);
        n.minutes(40);
        Due.is("nose 0", n.cat(0, 0), 0);
    }

    private static void following() {
        NineCats x = Due.told("bridge 6 2;sunny 2;follower 0 0;follower 6 1;sun 5 9;");
        x.minutes(1);
        Due.is("the first one", x.cat(0, 0), 3);
        Due.is("behind it", x.cat(1, 0), 1);
        Due.is("behind that, where it is then", x.cat(2, 0), 6 + 1);
        x.minutes(1);
        Due.is("along the row first", x.cat(2, 0), 6 + 2);
        x.minutes(5);
        Due.is("it stays behind it", x.cat(1, 0), 4);
        Due.is("it stays under it", x.cat(2, 0), 6 + 4);
        NineCats y = Due.told("bridge 3 3;sleeper 1;follower 7 0;");
        y.minutes(1);
        Due.is("a row less", y.cat(1, 0), 4);
        y.minutes(1);
        Due.is("where it lies, none comes", y.cat(1, 0), 4);
    }

    private static void blocking() {
        NineCats x = Due.told("bridge 5 1;sunny 1;sunny 3;sun 4 9;");
        x.minutes(1);
        Due.is("the one behind", x.cat(0, 0), 2);
        Due.is("the one ahead", x.cat(1, 0), 4);
        x.minutes(1);
        Due.is("the one behind", x.cat(0, 0), 3);
        x.minutes(1);
        Due.is("it is blocked", x.cat(0, 0), 3);
        NineCats y = Due.told("bridge 5 1;sunny 1;sunny 2;sun 4 9;");
        y.minutes(1);
        Due.is("the other one goes behind it", y.cat(0, 0), 1);
        Due.is("the other one", y.cat(1, 0), 3);
        NineCats z = Due.told("bridge 5 1;sunny 2;sunny 1;sun 4 9;");
        z.minutes(1);
        Due.is("the first one has gone", z.cat(0, 0), 3);
        Due.is("its cell is free then", z.cat(1, 0), 2);
        NineCats w = Due.told("bridge 4 1;sunny 2;sun 0 9;");
        w.enter(0);
        Due.is("it came", w.cat(0, 0), 1);
        w.minutes(3);
        Due.is("the walker's cell is not stepped to", w.cat(0, 0), 1);
        w.move(3);
        Due.is("it comes as he has gone", w.cat(0, 0), 0);
    }

    private static void eating() {
        NineCats x = Due.told("bridge 5 1;fisher 0;sunny 4;sun 0 9;");
        x.drop(1);
        x.drop(2);
        x.drop(3);
        Due.is("two eat in a minute", x.minutes(1), 2);
        Due.is("cat(0, 3)", x.cat(0, 3), 1);
        Due.is("a sunny cat eats, too", x.cat(1, 3), 1);
        Due.is("what lies", x.count(3), 1);
        Due.is("the last one", x.minutes(5), 1);
        Due.is("cat(0, 3)", x.cat(0, 3), 2);
        Due.is("cat(1, 3)", x.cat(1, 3), 1);
        NineCats y = Due.told("bridge 4 1;fisher 1;fisher 3;");
        y.drop(2);
        Due.is("both go to one", y.minutes(1), 1);
        Due.is("the first has it", y.cat(0, 3), 1);
        Due.is("the second stays", y.cat(1, 0), 3);
    }

    private static void dropping() {
        NineCats x = Due.told("sleeper 3;");
        Due.is("drop(-1)", x.drop(-1), NineCats.BAD);
        Due.is("drop(10)", x.drop(10), NineCats.BAD);
        Due.is("drop(3)", x.drop(3), NineCats.STATE);
        Due.is("drop(0)", x.drop(0), 1);
        Due.is("drop(0)", x.drop(0), NineCats.STATE);
        Due.is("drop(9)", x.drop(9), 2);
        x.enter(1);
        Due.is("drop(5) where the walker is", x.drop(5), 3);
        Due.is("drop(6)", x.drop(6), 4);
        Due.is("drop(7)", x.drop(7), NineCats.FULL);
        Due.is("drop(0), full", x.drop(0), NineCats.STATE);
        Due.is("drop(3), full", x.drop(3), NineCats.STATE);
        Due.is("drop(10), full", x.drop(10), NineCats.BAD);
        Due.is("count(3)", x.count(3), 4);
    }

    private static void entering() {
        NineCats x = Due.told("bridge 3 3;sleeper 3;sunny 2;");
        Due.is("enter(-1)", x.enter(-1), NineCats.BAD);
        Due.is("enter(3)", x.enter(3), NineCats.BAD);
        Due.is("enter(1)", x.enter(1), NineCats.STATE);
        Due.is("now(3)", x.now(3), 0);
        Due.is("enter(2)", x.enter(2), 6);
        Due.is("now(3)", x.now(3), 1);
        Due.is("cat(1, 0)", x.cat(1, 0), 1);
        Due.is("enter(0)", x.enter(0), NineCats.STATE);
        Due.is("enter(3) again", x.enter(3), NineCats.BAD);
        Due.is("now(3)", x.now(3), 1);
    }

    private static void moving() {
        NineCats x = Due.told("bridge 4 2;sleeper 6;");
        Due.is("move(0)", x.move(0), NineCats.STATE);
        Due.is("move(5)", x.move(5), NineCats.BAD);
        Due.is("move(-1)", x.move(-1), NineCats.BAD);
        x.enter(0);
        Due.is("move(1)", x.move(1), NineCats.STATE);
        Due.is("move(4)", x.move(4), 0);
        Due.is("now(3)", x.now(3), 2);
        Due.is("move(2)", x.move(2), 4);
        Due.is("move(2)", x.move(2), NineCats.STATE);
        Due.is("move(0)", x.move(0), 5);
        Due.is("move(0)", x.move(0), NineCats.STATE);
        Due.is("now(3)", x.now(3), 4);
        Due.is("move(3)", x.move(3), 4);
        Due.is("move(1)", x.move(1), 0);
        Due.is("now(3)", x.now(3), 6);
        Due.is("now(4)", x.now(4), 0);
    }

    private static void leaving() {
        NineCats x = Due.told("bridge 2 1;");
        x.enter(0);
        Due.is("back", x.move(3), NineCats.NONE);
        Due.is("now(3)", x.now(3), 2);
        Due.is("now(5)", x.now(5), 0);
        Due.is("move(4)", x.move(4), NineCats.STATE);
        x.enter(0);
        x.move(0);
        Due.is("over", x.move(0), NineCats.NONE);
        Due.is("now(3)", x.now(3), 5);
        Due.is("now(5)", x.now(5), 1);
        x.enter(0);
        x.move(0);
        x.move(0);
        Due.is("over again", x.now(5), 2);
        NineCats y = Due.told("bridge 3 1;sunny 2;sun 0 9;");
        y.enter(0);
        y.move(3);
        Due.is("a minute goes by behind him", y.cat(0, 0), 0);
    }

    private static void lastMinute() {
        NineCats x = Due.told("bridge 1 1;");
        for (int i = 0; i < 4; i++) {
            x.minutes(40);
        }
        x.minutes(38);
        Due.is("enter(0) in minute 198", x.enter(0), 0);
        Due.is("now(3)", x.now(3), 199);
        Due.is("move(0)", x.move(0), NineCats.STATE);
        Due.is("move(3)", x.move(3), NineCats.STATE);
        Due.is("move(4)", x.move(4), NineCats.STATE);
        Due.is("move(5)", x.move(5), NineCats.BAD);
        Due.is("now(4)", x.now(4), 0);
        NineCats y = new NineCats();
        for (int i = 0; i < 4; i++) {
            y.minutes(40);
        }
        y.minutes(39);
        Due.is("enter(0) in minute 199", y.enter(0), NineCats.STATE);
        Due.is("enter(2) in minute 199", y.enter(2), NineCats.BAD);
        Due.is("soonest() in minute 199", y.soonest(), 6);
        Due.is("ways(6) in minute 199", y.ways(6), 2);
    }
}
