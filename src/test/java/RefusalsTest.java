import java.util.function.Supplier;

/** "Refused, and nothing changes, the first of these: BAD .., STATE .., FULL": each call that can be refused for two of them. */
public final class RefusalsTest {
    private static final int BAD = NineCats.BAD, STATE = NineCats.STATE, FULL = NineCats.FULL;

    public static void main(String[] args) {
        badOnANewObject();
        badAheadOfFull();
        badAheadOfState();
        stateAheadOfFull();
        stateChangesNothing();
        fullChangesNothing();
        Due.end();
    }

    /** All that may lie, be and be typed does; images are kept, and somebody is on the bridge. */
    private static NineCats full() {
        NineCats x = Due.told("bridge 5 3;sunny 3;fisher 14;follower 13 1;sleeper 9;sleeper 2;sun 4 1;nose 2;");
        x.keep(0);
        x.enter(1);
        for (int c = 5; c <= 8; c++) {
            x.drop(c);
        }
        x.keep(1);
        x.mark(4, 2);
        Due.type(x, "nose 8;" + " ".repeat(193));
        return x;
    }

    private static NineCats late(Supplier<NineCats> made) {
        NineCats x = made.get();
        Made.inMinute(x, 199);
        x.keep(0);
        return x;
    }

    private static NineCats lateAndFull() {
        return late(RefusalsTest::full);
    }

    private static NineCats lateAndNobody() {
        return late(() -> Due.told("bridge 5 2;sunny 0;sun 0 1;"));
    }

    private static void badOnANewObject() {
        Twins.unchanged("cat(0, 0)", NineCats::new, x -> x.cat(0, 0), BAD);
        Twins.unchanged("cell(10, 0)", NineCats::new, x -> x.cell(10, 0), BAD);
        Twins.unchanged("now(6)", NineCats::new, x -> x.now(6), BAD);
        Twins.unchanged("count(5)", NineCats::new, x -> x.count(5), BAD);
        Twins.unchanged("drop(10)", NineCats::new, x -> x.drop(10), BAD);
        Twins.unchanged("enter(2)", NineCats::new, x -> x.enter(2), BAD);
        Twins.unchanged("move(5)", NineCats::new, x -> x.move(5), BAD);
        Twins.unchanged("tenth(10)", NineCats::new, x -> x.tenth(10), BAD);
        Twins.unchanged("marks(1024, 1)", NineCats::new, x -> x.marks(1024, 1), BAD);
    }

    private static void badAheadOfFull() {
        Twins.unchanged("type(0, 0)", RefusalsTest::full, x -> x.type(0, 0), BAD);
        Twins.unchanged("type(0, 9)", RefusalsTest::full, x -> x.type(0, 9), BAD);
        Twins.unchanged("drop(15)", RefusalsTest::full, x -> x.drop(15), BAD);
        Twins.unchanged("drop(-1)", RefusalsTest::full, x -> x.drop(-1), BAD);
    }

    private static void badAheadOfState() {
        Twins.unchanged("minutes(41)", RefusalsTest::lateAndFull, x -> x.minutes(41), BAD);
        Twins.unchanged("minutes(0)", RefusalsTest::lateAndFull, x -> x.minutes(0), BAD);
        Twins.unchanged("enter(3)", RefusalsTest::lateAndFull, x -> x.enter(3), BAD);
        Twins.unchanged("enter(-1)", RefusalsTest::lateAndFull, x -> x.enter(-1), BAD);
        Twins.unchanged("move(5)", RefusalsTest::lateAndNobody, x -> x.move(5), BAD);
        Twins.unchanged("move(-1)", RefusalsTest::lateAndNobody, x -> x.move(-1), BAD);
        Twins.unchanged("back(2)", NineCats::new, x -> x.back(2), BAD);
        Twins.unchanged("back(-1)", NineCats::new, x -> x.back(-1), BAD);
    }

    private static void stateAheadOfFull() {
        Due.is("count(3)", full().count(3), 4);
        Twins.unchanged("drop(5), where fish lies", RefusalsTest::full, x -> x.drop(5), STATE);
        Twins.unchanged("drop(8), where fish lies", RefusalsTest::full, x -> x.drop(8), STATE);
        Twins.unchanged("drop(2), where a cat is", RefusalsTest::full, x -> x.drop(2), STATE);
        Twins.unchanged("drop(14), where a cat is", RefusalsTest::full, x -> x.drop(14), STATE);
    }

    private static void stateChangesNothing() {
        Twins.unchanged("minutes(1)", RefusalsTest::lateAndFull, x -> x.minutes(1), STATE);
        Twins.unchanged("minutes(40)", RefusalsTest::lateAndNobody, x -> x.minutes(40), STATE);
        Twins.unchanged("enter(0), he is on the bridge", RefusalsTest::full, x -> x.enter(0), STATE);
        Twins.unchanged("enter(1), he is there himself", RefusalsTest::full, x -> x.enter(1), STATE);
        Twins.unchanged("enter(1) in 199", RefusalsTest::lateAndNobody, x -> x.enter(1), STATE);
        Twins.unchanged("enter(0), a cat is there", () -> Due.told("sunny 0;sun 3 1;"), x -> x.enter(0), STATE);
        Twins.unchanged("move(0), nobody", () -> Due.told("sunny 0;sun 3 1;"), x -> x.move(0), STATE);
        Twins.unchanged("move(3) in 199", RefusalsTest::lateAndFull, x -> x.move(3), STATE);
        Twins.unchanged("move(1), out at the side", RefusalsTest::besideACat, x -> x.move(1), STATE);
        Twins.unchanged("move(0), a cat is there", RefusalsTest::besideACat, x -> x.move(0), STATE);
        Twins.unchanged("move(2), a cat is there", RefusalsTest::besideACat, x -> x.move(2), STATE);
        Twins.unchanged("back(0)", () -> Due.told("sunny 0;sun 3 1;"), x -> x.back(0), STATE);
        Twins.unchanged("back(1)", () -> Due.told("sunny 0;sun 3 1;"), x -> x.back(1), STATE);
    }

    private static NineCats besideACat() {
        NineCats x = Due.told("bridge 3 2;sleeper 1;sleeper 3;sunny 5;sun 1 1;");
        x.enter(0);
        return x;
    }

    private static void fullChangesNothing() {
        Twins.unchanged("type(.., 1)", RefusalsTest::full, x -> x.type(0x3b, 1), FULL);
        Twins.unchanged("type(.., 8)", RefusalsTest::full, x -> x.type(0x6e6f73652037203bL, 8), FULL);
        Twins.unchanged("drop(0)", RefusalsTest::full, x -> x.drop(0), FULL);
        Twins.unchanged("drop(10)", RefusalsTest::full, x -> x.drop(10), FULL);
    }
}
