/** Compares answers with those that are due, and ends a test. */
final class Due {
    private static int wrong = 0;

    private Due() {
    }

    static void is(String call, long got, long want) {
        if (got != want) {
            wrong++;
            System.out.println(call + " answered " + got + ", due is " + want);
        }
    }

    static void isText(String what, String got, String want) {
        if (!got.equals(want)) {
            wrong++;
            System.out.println(what + " is\n  " + got + "\nand should be\n  " + want);
        }
    }

    static int wrong() {
        return wrong;
    }

    static void end() {
        System.out.println(wrong == 0 ? "all answers are as due" : wrong + " answers are not as due");
        if (wrong != 0) {
            System.exit(1);
        }
    }

    /** Types a text of bytes (signs 0 to 255), eight at a time. */
    static void type(NineCats cats, String text) {
        for (int from = 0; from < text.length(); from += 8) {
            int to = Math.min(text.length(), from + 8);
            long v = 0;
            for (int i = from; i < to; i++) {
                v = v << 8 | text.charAt(i);
            }
            cats.type(v, to - from);
        }
    }

    /** What bridge() answers to a text alone. */
    static int bridge(NineCats cats, String text) {
        cats.clear();
        type(cats, text);
        return cats.bridge();
    }

    /** A new object on which a text was read. */
    static NineCats told(String text) {
        NineCats cats = new NineCats();
        int items = bridge(cats, text);
        if (items < 0) {
            is("bridge() of " + text, items, 0);
        }
        return cats;
    }

    static void fault(String text, int place) {
        NineCats cats = told("bridge 4 3;sunny 6;nose 2;");
        cats.minutes(3);
        is("bridge() of '" + text + "'", bridge(cats, text), -10 - place);
        is("count(4) behind the fault in '" + text + "'", cats.count(4), text.length());
        is("count(0) behind the fault in '" + text + "'", cats.count(0), 4);
        is("now(3) behind the fault in '" + text + "'", cats.now(3), 3);
        is("cat(0, 1) behind the fault in '" + text + "'", cats.cat(0, 1), 1);
        is("now(2) behind the fault in '" + text + "'", cats.now(2), 2);
    }
}
