/** Promises 20 to 24: kinds, images, counts, the trace. */
public final class KindsTest {
    public static void main(String[] args) {
        marks();
        images();
        counts();
        constants();
        Due.end();
    }

    private static void marks() {
        NineCats x = Due.told("bridge 4 1;sleeper 3;fisher 0;");
        x.drop(1);
        x.drop(2);
        x.minutes(2);
        int[] due = {2, 4, 0, 8, 1, 4};
        int[] asked = {1, 11, 101, 1011, 10101, 100001};
        long trace = 0;
        for (int kind = 0; kind < due.length; kind++) {
            Due.is("mark(" + kind + ", 1)", x.mark(kind, 1), due[kind]);
            trace += asked[kind];
            Due.is("trace()", x.trace(), trace);
        }
        Due.is("mark(4, 0)", x.mark(4, 0), 3);
        Due.is("mark(5, 0)", x.mark(5, 0), 5);
        trace = x.trace();
        Due.is("mark(-1, 0)", x.mark(-1, 0), NineCats.NO);
        Due.is("mark(6, 0)", x.mark(6, 0), NineCats.NO);
        Due.is("mark(0, 2)", x.mark(0, 2), NineCats.NO);
        Due.is("mark(0, -1)", x.mark(0, -1), NineCats.NO);
        Due.is("trace() of what was refused", x.trace(), trace);
        NineCats y = Due.told("bridge 3 1;fisher 2;nose 9;");
        for (int i = 0; i < 2; i++) {
            y.drop(1);
            y.minutes(1);
            y.drop(0);
            y.minutes(1);
        }
        Due.is("cat(0, 3)", y.cat(0, 3), 4);
        Due.is("below 0", y.mark(2, 0), -4);
        Due.is("below 0", y.mark(4, 0), -4);
    }

    private static void images() {
        NineCats x = Due.told("bridge 4 2;fisher 0;sunny 7;");
        Due.is("keep(-1)", x.keep(-1), NineCats.BAD);
        Due.is("keep(2)", x.keep(2), NineCats.BAD);
        Due.is("back(-1)", x.back(-1), NineCats.BAD);
        Due.is("back(2)", x.back(2), NineCats.BAD);
        Due.is("back(0)", x.back(0), NineCats.STATE);
        Due.is("keep(1)", x.keep(1), 0);
        Due.is("back(0)", x.back(0), NineCats.STATE);
        x.drop(1);
        x.drop(3);
        x.enter(1);
        Due.is("keep(0)", x.keep(0), 1);
        x.move(0);
        x.move(3);
        x.move(3);
        x.mark(0, 0);
        Due.type(x, "nose");
        Due.is("back(0)", x.back(0), 1);
        Due.is("cat(0, 0)", x.cat(0, 0), 1);
        Due.is("cat(0, 3)", x.cat(0, 3), 1);
        Due.is("cat(1, 0)", x.cat(1, 0), 6);
        Due.is("cell(1, 0)", x.cell(1, 0), 0);
        Due.is("cell(7, 0)", x.cell(7, 0), NineCats.NONE);
        Due.is("cell(3, 1)", x.cell(3, 1), 1);
        Due.is("cell(1, 1)", x.cell(1, 1), 0);
        Due.is("now(3)", x.now(3), 1);
        Due.is("now(4)", x.now(4), 4);
        Due.is("count(4) is not kept", x.count(4), 4);
        Due.is("trace() is not kept", x.trace(), 1);
        Due.is("back(1)", x.back(1), 0);
        Due.is("cat(0, 0)", x.cat(0, 0), 0);
        Due.is("cat(0, 3)", x.cat(0, 3), 0);
        Due.is("now(4)", x.now(4), NineCats.NONE);
        Due.is("count(3)", x.count(3), 0);
        Due.is("an image stays as it is kept", x.back(0), 1);
        Due.is("keep(0) again", x.keep(0), 1);
        NineCats over = Due.told("bridge 1 1;");
        over.enter(0);
        over.move(0);
        over.keep(0);
        over.enter(0);
        over.move(0);
        Due.is("now(5)", over.now(5), 2);
        over.back(0);
        Due.is("how many were over is kept", over.now(5), 1);
    }

    private static void counts() {
        NineCats x = Due.told("bridge 7 3;sleeper 0;sleeper 1;");
        x.drop(5);
        Due.type(x, "abc");
        Due.is("count(0)", x.count(0), 7);
        Due.is("count(1)", x.count(1), 3);
        Due.is("count(2)", x.count(2), 2);
        Due.is("count(3)", x.count(3), 1);
        Due.is("count(4)", x.count(4), 3);
        Due.is("count(5)", x.count(5), NineCats.BAD);
        Due.is("count(-1)", x.count(-1), NineCats.BAD);
    }

    private static void constants() {
        Due.is("BAD", NineCats.BAD, -1);
        Due.is("STATE", NineCats.STATE, -2);
        Due.is("FULL", NineCats.FULL, -3);
        Due.is("NONE", NineCats.NONE, -9);
        Due.is("NO", NineCats.NO, -1000000);
    }
}
