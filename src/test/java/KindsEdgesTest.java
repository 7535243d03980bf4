/** The edges of kinds, images and the trace (promises 20 to 24): each method stands for the sentence above it. */
public final class KindsEdgesTest {
    private static final int[] ASKED = {1, 11, 101, 1011, 10101, 100001};

    public static void main(String[] args) {
        kindsThereAre();
        catsThereAre();
        marksOfTheLast();
        marksOfTheFirst();
        lessWhatItAte();
        theMinuteAtItsEnds();
        traceOfEachBody();
        traceOfAllCalls();
        imagesThereAre();
        noneKept();
        keptAtBothEnds();
        eachThingIsKept();
        nothingElseIsKept();
        imagesStandApart();
        imagesAndTexts();
        fullAndEmpty();
        Due.end();
    }

    private static NineCats most() {
        NineCats x = Due.told("bridge 8 3;sleeper 0;sunny 7;fisher 16;follower 12 1;follower 23 3;sun 7 9;nose 9;");
        x.keep(1);
        return x;
    }

    // "0 CAT; 1 TOM, 2 KITTEN, 5 GHOST ..; 3 GINGER ..; 4 STRAY"; mark: "NO: BAD"
    private static void kindsThereAre() {
        int[] bad = {-1, 6, 7, Integer.MIN_VALUE, Integer.MAX_VALUE};
        for (int kind : bad) {
            Twins.unchanged("mark(" + kind + ", 0)", KindsEdgesTest::most, x -> x.mark(kind, 0), -1000000);
            Twins.unchanged("mark(" + kind + ", 5)", KindsEdgesTest::most, x -> x.mark(kind, 5), -1000000);
        }
    }

    private static void catsThereAre() {
        int[] bad = {-1, 5, 8, Integer.MIN_VALUE, Integer.MAX_VALUE};
        for (int k : bad) {
            for (int kind = 0; kind <= 5; kind++) {
                int what = kind;
                Twins.unchanged("mark(" + kind + ", " + k + ")", KindsEdgesTest::most, x -> x.mark(what, k), -1000000);
            }
        }
        Twins.unchanged("mark(0, 0) of no cat", NineCats::new, x -> x.mark(0, 0), -1000000);
    }

    private static void marks(String when, NineCats x, int k, int... due) {
        for (int kind = 0; kind < due.length; kind++) {
            Due.is("mark(" + kind + ", " + k + ") " + when, x.mark(kind, k), due[kind]);
        }
    }

    // "CAT its CELL. TOM up, and its HABIT. KITTEN up less how much it ate. GINGER up times 2. STRAY up, and its number. GHOST up, and the MINUTE"
    private static void marksOfTheLast() {
        marks("of the last cat in the last CELL", most(), 4, 23, 26, 23, 52, 27, 23);
        marks("of a cat with the SUN", most(), 1, 7, 8, 7, 16, 8, 7);
        marks("of one that goes to fish", most(), 2, 16, 18, 16, 36, 18, 16);
    }

    private static void marksOfTheFirst() {
        marks("of the first cat in CELL 0", most(), 0, 0, 0, 0, 0, 0, 0);
    }

    private static void lessWhatItAte() {
        NineCats x = Due.told("bridge 4 1;sleeper 3;fisher 1;nose 9;");
        x.drop(0);
        x.minutes(1);
        marks("behind one", x, 1, 0, 2, -1, 4, 0, 1);
        x.drop(1);
        x.minutes(1);
        x.drop(0);
        x.minutes(1);
        marks("behind three", x, 1, 0, 2, -3, 4, -2, 3);
        marks("of one that ate none", x, 0, 3, 3, 3, 6, 3, 6);
    }

    private static void theMinuteAtItsEnds() {
        NineCats x = Due.told("bridge 8 3;sleeper 23;");
        Due.is("mark(5, 0) in minute 0", x.mark(5, 0), 23);
        Made.inMinute(x, 199);
        Due.is("mark(5, 0) in minute 199", x.mark(5, 0), 222);
    }

    // "numbers in brackets come to THE TRACE (0 at first ..) as often as mark() asks that body"
    private static void traceOfEachBody() {
        for (int kind = 0; kind <= 5; kind++) {
            NineCats x = most();
            Due.is("trace() at first", x.trace(), 0);
            x.mark(kind, 4);
            Due.is("trace() behind mark(" + kind + ", 4)", x.trace(), ASKED[kind]);
            x.mark(kind, 0);
            Due.is("trace() behind mark(" + kind + ", ..) twice", x.trace(), 2 * ASKED[kind]);
        }
        NineCats x = most();
        x.cat(0, 0);
        x.at(0, 40);
        x.tenth(-1);
        x.close();
        Due.is("trace(): mark() alone asks", x.trace(), 0);
    }

    // "(.. of all calls ever, together)"; "THE TRACE stays"
    private static void traceOfAllCalls() {
        NineCats x = most();
        x.mark(5, 0);
        x.keep(0);
        x.mark(4, 1);
        x.back(0);
        Due.is("trace() behind back(0)", x.trace(), 110102);
        x.clear();
        x.bridge();
        Due.is("trace() behind bridge()", x.trace(), 110102);
        x.mark(0, 0);
        Due.is("trace() where no cat is", x.trace(), 110102);
        Due.bridge(x, "sleeper 1;");
        x.mark(3, 0);
        Due.is("trace() behind all", x.trace(), 111113);
    }

    // "IMAGES 0, 1"; keep and back: "BAD"
    private static void imagesThereAre() {
        int[] bad = {-1, 2, Integer.MIN_VALUE, Integer.MAX_VALUE};
        for (int image : bad) {
            Twins.unchanged("keep(" + image + ")", KindsEdgesTest::most, x -> x.keep(image), NineCats.BAD);
            Twins.unchanged("back(" + image + ")", KindsEdgesTest::most, x -> x.back(image), NineCats.BAD);
            Twins.unchanged("back(" + image + "), none kept", NineCats::new, x -> x.back(image), NineCats.BAD);
        }
    }

    // back: "STATE: none was kept"
    private static void noneKept() {
        for (int image = 0; image <= 1; image++) {
            int one = image;
            Twins.unchanged("back(" + image + ") of a new object", NineCats::new, x -> x.back(one), NineCats.STATE);
            NineCats x = new NineCats();
            Due.is("keep(" + image + ")", x.keep(image), 0);
            Due.is("back() of the other one", x.back(1 - image), NineCats.STATE);
            Due.is("back(" + image + ")", x.back(image), 0);
        }
        Twins.unchanged("back(0), 1 was kept", KindsEdgesTest::most, x -> x.back(0), NineCats.STATE);
    }

    // keep and back: "the MINUTE", 0 to 199
    private static void keptAtBothEnds() {
        NineCats x = Due.told("bridge 8 1;sunny 0;sun 7 9;");
        Due.is("keep(0) in 0", x.keep(0), 0);
        Made.inMinute(x, 199);
        Due.is("keep(1) in 199", x.keep(1), 199);
        Due.is("back(0)", x.back(0), 0);
        Due.is("now(3)", x.now(3), 0);
        Due.is("minutes(40) go by again", x.minutes(40), 0);
        Due.is("back(1)", x.back(1), 199);
        Due.is("minutes(1) beyond 199", x.minutes(1), NineCats.STATE);
        Due.is("enter(0) in 199", x.enter(0), NineCats.STATE);
        Due.is("back(0)", x.back(0), 0);
        Due.is("cat(0, 0)", x.cat(0, 0), 0);
    }

    private static NineCats played() {
        NineCats x = Due.told("bridge 4 2;fisher 1;sunny 7;follower 2 0;sun 2 3;nose 9;");
        x.enter(1);
        x.move(0);
        x.drop(0);
        x.drop(2);
        x.move(3);
        return x;
    }

    private static void playOn(NineCats x) {
        x.move(3);
        x.drop(4);
        x.drop(5);
        x.minutes(7);
        x.enter(1);
        x.move(1);
        x.move(4);
    }

    // "IMAGES .. keep NOW (the MINUTE, cats, what each ate, fish, THE WALKER, how many were OVER)"
    private static void eachThingIsKept() {
        for (int image = 0; image <= 1; image++) {
            NineCats x = played();
            String before = Look.at(x);
            Due.is("keep(" + image + ")", x.keep(image), 3);
            Due.isText("what is there behind keep()", Look.at(x), before);
            playOn(x);
            Due.is("it went on", Look.at(x).equals(before) ? 1 : 0, 0);
            Due.is("back(" + image + ")", x.back(image), 3);
            Due.isText("what is there behind back()", Look.at(x), before);
            playOn(x);
            NineCats same = played();
            playOn(same);
            Due.isText("what comes behind back()", Look.at(x), Look.at(same));
        }
        NineCats over = Due.told("bridge 1 1;");
        over.keep(0);
        over.enter(0);
        over.keep(1);
        over.move(0);
        Due.is("now(5)", over.now(5), 1);
        over.back(1);
        Due.is("now(5) as he was on the bridge", over.now(5), 0);
        Due.is("now(4) as he was on the bridge", over.now(4), 0);
        over.move(0);
        Due.is("now(5)", over.now(5), 1);
        over.keep(1);
        over.back(0);
        Due.is("now(5) at first", over.now(5), 0);
        Due.is("now(4) at first", over.now(4), NineCats.NONE);
        over.back(1);
        Due.is("now(5) as he was OVER", over.now(5), 1);
    }

    // "nothing else"
    private static void nothingElseIsKept() {
        NineCats x = most();
        Due.type(x, "nose");
        x.keep(0);
        x.mark(5, 0);
        Due.type(x, " 2;");
        x.back(0);
        Due.is("trace()", x.trace(), 100001);
        Due.is("count(4)", x.count(4), 7);
        Due.is("bridge()", x.bridge(), 1);
        Due.is("now(2)", x.now(2), 2);
    }

    private static void imagesStandApart() {
        NineCats x = Due.told("bridge 8 1;sunny 0;sun 7 9;");
        x.keep(0);
        x.minutes(2);
        x.keep(1);
        x.minutes(2);
        Due.is("back(0)", x.back(0), 0);
        x.minutes(1);
        Due.is("back(1)", x.back(1), 2);
        Due.is("cat(0, 0)", x.cat(0, 0), 2);
        Due.is("back(0) again", x.back(0), 0);
        Due.is("cat(0, 0)", x.cat(0, 0), 0);
        x.minutes(1);
        Due.is("keep(0) anew", x.keep(0), 1);
        x.minutes(5);
        Due.is("back(0)", x.back(0), 1);
        Due.is("back(1)", x.back(1), 2);
    }

    // "Read anew: .. IMAGES are gone"; a FAULT changes nothing
    private static void imagesAndTexts() {
        NineCats x = most();
        x.keep(0);
        x.minutes(1);
        Due.is("bridge() with a fault", Due.bridge(x, "cat;"), -10);
        Due.is("back(0)", x.back(0), 0);
        Due.is("back(1)", x.back(1), 0);
        Due.is("bridge() of no items", Due.bridge(x, " "), 0);
        Twins.unchanged("back(0) behind bridge()", () -> {
            NineCats y = most();
            y.keep(0);
            y.bridge();
            return y;
        }, y -> y.back(0), NineCats.STATE);
        Due.is("back(0)", x.back(0), NineCats.STATE);
        Due.is("back(1)", x.back(1), NineCats.STATE);
    }

    private static void fullAndEmpty() {
        NineCats x = Due.told("fisher 0;nose 0;");
        x.keep(0);
        for (int c = 1; c <= 4; c++) {
            x.drop(c);
        }
        x.keep(1);
        x.back(0);
        Due.is("count(3), no fish", x.count(3), 0);
        Due.is("drop(9)", x.drop(9), 1);
        x.back(1);
        Due.is("count(3), the most fish", x.count(3), 4);
        Due.is("drop(9)", x.drop(9), NineCats.FULL);
        Due.is("drop(4)", x.drop(4), NineCats.STATE);
    }
}
