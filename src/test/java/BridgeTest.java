/** Promises 1 to 7: the text, the bridge and what is told of it. */
public final class BridgeTest {
    public static void main(String[] args) {
        newObject();
        typing();
        clearing();
        reading();
        spacing();
        words();
        numbers();
        repetitions();
        cats();
        readingAnew();
        cat();
        cell();
        now();
        Due.end();
    }

    private static void newObject() {
        NineCats x = new NineCats();
        Due.is("count(0)", x.count(0), 5);
        Due.is("count(1)", x.count(1), 2);
        Due.is("count(2)", x.count(2), 0);
        Due.is("count(3)", x.count(3), 0);
        Due.is("count(4)", x.count(4), 0);
        Due.is("now(0)", x.now(0), 0);
        Due.is("now(1)", x.now(1), 1);
        Due.is("now(2)", x.now(2), 3);
        Due.is("now(3)", x.now(3), 0);
        Due.is("now(4)", x.now(4), NineCats.NONE);
        Due.is("now(5)", x.now(5), 0);
        Due.is("trace()", x.trace(), 0);
        Due.is("back(0)", x.back(0), NineCats.STATE);
        Due.is("back(1)", x.back(1), NineCats.STATE);
        Due.is("cat(0, 0)", x.cat(0, 0), NineCats.BAD);
    }

    private static void typing() {
        NineCats x = new NineCats();
        Due.is("type(1, 0)", x.type(1, 0), NineCats.BAD);
        Due.is("type(1, 9)", x.type(1, 9), NineCats.BAD);
        Due.is("type(1, -1)", x.type(1, -1), NineCats.BAD);
        Due.is("type of one byte", x.type('n', 1), 1);
        Due.is("the highest of the lowest three first", x.type(0x776f7365L, 3), 4);
        Due.is("type of ' 7;'", x.type(0x20373bL, 3), 7);
        Due.is("bridge() of 'nose 7;'", x.bridge(), 1);
        Due.is("now(2)", x.now(2), 7);
        for (int i = 1; i <= 24; i++) {
            Due.is("type of eight blanks", x.type(0x2020202020202020L, 8), 8 * i);
        }
        Due.is("type(.., 7)", x.type(0x20202020202020L, 7), 199);
        Due.is("type(.., 2)", x.type(0x2020L, 2), NineCats.FULL);
        Due.is("type(.., 8)", x.type(-1, 8), NineCats.FULL);
        Due.is("type(.., 9) of a full text", x.type(-1, 9), NineCats.BAD);
        Due.is("type(.., 1)", x.type(0x20, 1), 200);
        Due.is("type(.., 1) of a full text", x.type(0x20, 1), NineCats.FULL);
        Due.is("count(4)", x.count(4), 200);
        Due.is("bridge() of blanks", x.bridge(), 0);
        Due.is("count(4)", x.count(4), 0);
    }

    private static void clearing() {
        NineCats x = new NineCats();
        Due.is("clear()", x.clear(), 0);
        Due.type(x, "nose");
        Due.is("clear()", x.clear(), 4);
        Due.is("clear()", x.clear(), 0);
        Due.type(x, "nose 0;");
        Due.is("bridge()", x.bridge(), 1);
        Due.is("now(2)", x.now(2), 0);
        Due.is("clear()", x.clear(), 0);
    }

    private static void reading() {
        NineCats x = new NineCats();
        Due.is("all items", Due.bridge(x, "bridge 8 3;sleeper 0;sunny 1;fisher 2;follower 3 2;sun 7 9;nose 9;sleeper 23;"), 8);
        Due.is("count(0)", x.count(0), 8);
        Due.is("count(1)", x.count(1), 3);
        Due.is("count(2)", x.count(2), 5);
        Due.is("now(0)", x.now(0), 7);
        Due.is("now(1)", x.now(1), 9);
        Due.is("now(2)", x.now(2), 9);
        Due.is("the least", Due.bridge(x, "bridge 1 1;sun 0 1;nose 0;sleeper 0;"), 4);
        Due.is("count(0)", x.count(0), 1);
        Due.is("count(1)", x.count(1), 1);
        Due.is("no bridge told", Due.bridge(x, "sun 7 2;sleeper 9;"), 2);
        Due.is("count(0)", x.count(0), 5);
        Due.is("count(1)", x.count(1), 2);
        Due.is("now(0) left over by 5", x.now(0), 2);
        Due.is("cat(0, 0)", x.cat(0, 0), 9);
        Due.is("no items", Due.bridge(x, ""), 0);
    }

    private static void spacing() {
        NineCats x = new NineCats();
        Due.is("no blanks", Due.bridge(x, "bridge4 1;sunny3;follower0 0;nose1;"), 4);
        Due.is("cat(1, 2)", x.cat(1, 2), 0);
        Due.is("many blanks", Due.bridge(x, "   bridge   4  1  ;  sunny  3  ;   "), 2);
        Due.is("cat(0, 0)", x.cat(0, 0), 3);
        Due.fault("bridge 41;", 7);
        Due.fault("bri dge 4 1;", 0);
        Due.fault("bridge\t4 1;", 6);
        Due.fault("bridge 4 1;\n", 11);
        Due.fault("nose 1 0;", 7);
    }

    private static void words() {
        Due.fault(";", 0);
        Due.fault("nose 1;;", 7);
        Due.fault("Nose 1;", 0);
        Due.fault("nosE 1;", 0);
        Due.fault("noseE 1;", 4);
        Due.fault("noses 1;", 0);
        Due.fault("nos 1;", 0);
        Due.fault("sunn 1;", 0);
        Due.fault("nosesun 1;", 0);
        Due.fault("nosez 1;", 0);
        Due.fault("anose 1;", 0);
        Due.fault("nose{ 1;", 4);
        Due.fault("nose` 1;", 4);
        Due.fault("nose /1;", 5);
        Due.fault("nose 1:;", 6);
        Due.fault(" cat 1;", 1);
        Due.fault("7 nose;", 0);
        Due.fault("nose nose;", 5);
        Due.fault("nose ;", 5);
        Due.fault("nose, 1;", 4);
        Due.fault("\u0000", 0);
        Due.fault("nose 1;\u00ff", 7);
        Due.fault("nose -1;", 5);
        Due.fault("sleeper 1 sunny 2;", 10);
        Due.fault("n", 0);
        Due.fault("nose", 4);
        Due.fault("nose ", 5);
        Due.fault("nose 1", 6);
        Due.fault("nose 1   ", 9);
        Due.fault("bridge 2 ", 9);
        Due.fault("bridge 2 2", 10);
        Due.fault("follower", 8);
        Due.fault("sleeper 0;follower 1", 20);
        Due.fault("sun 1 1; bridge", 9);
    }

    private static void numbers() {
        Due.fault("bridge 0 1;", 7);
        Due.fault("bridge 9 1;", 7);
        Due.fault("bridge 1 0;", 9);
        Due.fault("bridge 1 4;", 9);
        Due.fault("sun 8 1;", 4);
        Due.fault("sun 0 0;", 6);
        Due.fault("sun 0 10;", 6);
        Due.fault("nose 10;", 5);
        Due.fault("nose 00;", 5);
        Due.fault("nose 01;", 5);
        Due.fault("nose 100;", 5);
        Due.fault("nose 4294967297;", 5);
        Due.fault("nose 18446744073709551617;", 5);
        Due.fault("nose 1 100;", 7);
        Due.fault("sleeper 10;", 8);
        Due.fault("bridge 2 2;sleeper 4;", 19);
        Due.fault("bridge 8 3;sleeper 24;", 19);
        Due.fault("bridge 8 3;sleeper 023;", 19);
        Due.fault("bridge 8 3;sleeper 23a;", 21);
    }

    private static void repetitions() {
        Due.fault("nose 1;bridge 1 1;", 7);
        Due.fault("sleeper 1;bridge 5 2;", 10);
        Due.fault("bridge 1 1;bridge 1 1;", 11);
        Due.fault("sun 0 1;nose 1;sun 0 1;", 15);
        Due.fault("nose 1;sun 0 1;nose 1;", 15);
    }

    private static void cats() {
        Due.fault("sleeper 0;sunny 0;", 16);
        Due.fault("sleeper 1;fisher 1;", 17);
        Due.fault("sleeper 1;follower 1 7;", 19);
        Due.fault("sleeper 1;follower 2 1;", 21);
        Due.fault("follower 2 0;sleeper 1;", 11);
        Due.fault("sleeper 0;sleeper 1;sleeper 2;sleeper 3;sleeper 4;nose 1;follower 5 0;", 57);
        Due.fault("bridge 1 1;sleeper 0;sunny 0;", 27);
        NineCats x = Due.told("sleeper 9;sunny 8;fisher 7;follower 6 1;follower 5 3;");
        for (int k = 0; k < 5; k++) {
            Due.is("cat(" + k + ", 0)", x.cat(k, 0), 9 - k);
            Due.is("cat(" + k + ", 1)", x.cat(k, 1), Math.min(k, 3));
        }
        Due.is("cat(3, 2)", x.cat(3, 2), 1);
        Due.is("cat(4, 2)", x.cat(4, 2), 3);
    }

    private static void readingAnew() {
        NineCats x = Due.told("bridge 3 2;fisher 0;sun 2 5;nose 9;");
        x.drop(1);
        x.drop(5);
        x.enter(1);
        x.move(0);
        x.move(0);
        x.move(0);
        x.keep(0);
        x.keep(1);
        x.enter(1);
        x.mark(0, 0);
        x.drop(2);
        Due.is("one was over", x.now(5), 1);
        Due.is("it ate", x.cat(0, 3), 2);
        Due.is("bridge()", Due.bridge(x, "fisher 3;"), 1);
        Due.is("count(0)", x.count(0), 5);
        Due.is("count(1)", x.count(1), 2);
        Due.is("count(3)", x.count(3), 0);
        Due.is("now(0)", x.now(0), 0);
        Due.is("now(1)", x.now(1), 1);
        Due.is("now(2)", x.now(2), 3);
        Due.is("now(3)", x.now(3), 0);
        Due.is("now(4)", x.now(4), NineCats.NONE);
        Due.is("now(5)", x.now(5), 0);
        Due.is("cat(0, 3)", x.cat(0, 3), 0);
        Due.is("back(0)", x.back(0), NineCats.STATE);
        Due.is("back(1)", x.back(1), NineCats.STATE);
        Due.is("trace()", x.trace(), 1);
        Due.is("no cat where one was", x.drop(5), 1);
        Due.is("a cat where none was", x.drop(3), NineCats.STATE);
        Due.is("no fish where some lay", x.drop(2), 2);
        x.keep(0);
        Due.bridge(x, "cat");
        Due.is("an image stays where a fault is", x.back(0), 0);
    }

    private static void cat() {
        NineCats x = Due.told("sunny 0;fisher 7;follower 9 1;");
        Due.is("cat(0, 2)", x.cat(0, 2), NineCats.NONE);
        Due.is("cat(1, 2)", x.cat(1, 2), NineCats.NONE);
        Due.is("cat(2, 2)", x.cat(2, 2), 1);
        Due.is("cat(1, 3)", x.cat(1, 3), 0);
        x.drop(6);
        x.minutes(1);
        Due.is("cat(1, 0)", x.cat(1, 0), 6);
        Due.is("cat(1, 3)", x.cat(1, 3), 1);
        Due.is("cat(2, 0)", x.cat(2, 0), 8);
        Due.is("cat(3, 0)", x.cat(3, 0), NineCats.BAD);
        Due.is("cat(-1, 0)", x.cat(-1, 0), NineCats.BAD);
        Due.is("cat(0, 4)", x.cat(0, 4), NineCats.BAD);
        Due.is("cat(0, -1)", x.cat(0, -1), NineCats.BAD);
        Due.is("cat(least, 0)", x.cat(Integer.MIN_VALUE, 0), NineCats.BAD);
    }

    private static void cell() {
        NineCats x = Due.told("sleeper 4;sleeper 0;");
        x.drop(7);
        x.enter(1);
        Due.is("cell(4, 0)", x.cell(4, 0), 0);
        Due.is("cell(0, 0)", x.cell(0, 0), 1);
        Due.is("cell(7, 0)", x.cell(7, 0), NineCats.NONE);
        Due.is("cell(7, 1)", x.cell(7, 1), 1);
        Due.is("cell(4, 1)", x.cell(4, 1), 0);
        Due.is("cell(5, 2)", x.cell(5, 2), 1);
        Due.is("cell(7, 2)", x.cell(7, 2), 0);
        Due.is("cell(9, 2)", x.cell(9, 2), 0);
        Due.is("cell(10, 0)", x.cell(10, 0), NineCats.BAD);
        Due.is("cell(-1, 0)", x.cell(-1, 0), NineCats.BAD);
        Due.is("cell(0, 3)", x.cell(0, 3), NineCats.BAD);
        Due.is("cell(0, -1)", x.cell(0, -1), NineCats.BAD);
        Due.is("cell(most, 0)", x.cell(Integer.MAX_VALUE, 0), NineCats.BAD);
    }

    private static void now() {
        NineCats x = Due.told("bridge 3 1;sun 1 2;nose 4;");
        int[] columns = {1, 1, 2, 2, 0, 0, 1};
        for (int t = 0; t < columns.length; t++) {
            Due.is("now(0) in minute " + t, x.now(0), columns[t]);
            Due.is("now(3)", x.now(3), t);
            x.minutes(1);
        }
        Due.is("now(1)", x.now(1), 2);
        Due.is("now(2)", x.now(2), 4);
        x.enter(0);
        Due.is("now(4)", x.now(4), 0);
        x.move(0);
        Due.is("now(4)", x.now(4), 1);
        x.move(0);
        x.move(0);
        Due.is("now(4)", x.now(4), NineCats.NONE);
        Due.is("now(5)", x.now(5), 1);
        Due.is("now(6)", x.now(6), NineCats.BAD);
        Due.is("now(-1)", x.now(-1), NineCats.BAD);
    }
}
