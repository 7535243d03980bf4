/** The edges of THE TEXT (promises 2 to 4): each method stands for the sentence of the document above it. */
public final class TextEdgesTest {
    private static final String MOST_ITEMS =
        "bridge 8 3;sleeper 0;sunny 1;fisher 2;follower 3 0;sleeper 23;sun 7 9;nose 9;";
    private static final String[] WORDS = {"bridge", "sleeper", "sunny", "fisher", "follower", "sun", "nose"};

    public static void main(String[] args) {
        bytesOfAType();
        lowestBytesAlone();
        twoHundredBytes();
        aFullTextIsRead();
        cleared();
        blanksAlone();
        everyByte();
        noBlankNeeded();
        items();
        textsCutOff();
        wordsLettered();
        numbersOfABridge();
        numbersOfCats();
        numbersOfSunAndNose();
        bridgeFirst();
        onceEach();
        sixthCat();
        twoInOneCell();
        toldAhead();
        firstFaultCounts();
        faultChangesNothing();
        aTextStaysBehindItsFault();
        Due.end();
    }

    private static String blanks(int n) {
        return " ".repeat(n);
    }

    private static NineCats typed(String text) {
        NineCats cats = new NineCats();
        Due.type(cats, text);
        return cats;
    }

    private static void stands(String text, int items) {
        Due.is("bridge() of '" + text + "'", typed(text).bridge(), items);
    }

    private static void fails(String text, int place) {
        Due.is("bridge() of '" + text + "'", typed(text).bridge(), -10 - place);
    }

    // type: "The lowest n (1 .. 8) bytes of v"
    private static void bytesOfAType() {
        int[] bad = {0, 9, -1, 16, 64, Integer.MIN_VALUE, Integer.MAX_VALUE};
        for (int n : bad) {
            Twins.unchanged("type(-1, " + n + ")", NineCats::new, x -> x.type(-1, n), NineCats.BAD);
            Twins.unchanged("type(-1, " + n + "), full", () -> typed(blanks(200)), x -> x.type(-1, n), NineCats.BAD);
        }
        for (int n = 1; n <= 8; n++) {
            Due.is("type(0, " + n + ")", new NineCats().type(0, n), n);
        }
    }

    // type: "the highest of them first"; what is higher than the lowest n bytes does not come to THE TEXT
    private static void lowestBytesAlone() {
        String text = "nose         7;";
        for (int n = 1; n <= 8; n++) {
            NineCats x = new NineCats();
            for (int from = 0; from < text.length(); from += n) {
                int to = Math.min(text.length(), from + n);
                long v = 0x5a5a5a5a5a5a5a5aL;
                for (int i = from; i < to; i++) {
                    v = v << 8 | text.charAt(i);
                }
                Due.is("type(.., " + (to - from) + ")", x.type(v, to - from), to);
            }
            Due.is("bridge() of pieces of " + n, x.bridge(), 1);
            Due.is("now(2)", x.now(2), 7);
        }
        NineCats y = new NineCats();
        y.type(0x6e6f736520303b20L, 8);
        Due.is("eight bytes at once: 'nose 0; '", y.bridge(), 1);
        Due.is("now(2)", y.now(2), 0);
        y.type(0xbbL, 1);
        Due.is("a byte above 127 stays what it is", y.bridge(), -10);
    }

    // "a text (200 bytes at most)"; type: "FULL"
    private static void twoHundredBytes() {
        for (int n = 1; n <= 8; n++) {
            int most = n;
            Due.is("type(.., " + n + ") up to 200", typed(blanks(200 - n)).type(-1, n), 200);
            Twins.unchanged("type(.., " + n + ") up to 201", () -> typed(blanks(201 - most)),
                x -> x.type(-1, most), NineCats.FULL);
            Twins.unchanged("type(.., " + n + ") on 200", () -> typed(blanks(200)),
                x -> x.type(-1, most), NineCats.FULL);
        }
        NineCats x = typed(blanks(200));
        Due.is("clear() of a full text", x.clear(), 200);
        Due.is("type() behind it", x.type(0x20, 1), 1);
        NineCats y = typed(blanks(200));
        Due.is("bridge() of a full text", y.bridge(), 0);
        Due.is("type() behind it", y.type(0x2020, 2), 2);
    }

    private static void aFullTextIsRead() {
        String full = MOST_ITEMS.substring(0, MOST_ITEMS.length() - 1) + blanks(200 - MOST_ITEMS.length());
        stands(full + ";", 8);
        fails(full + " ", 200);
        fails(full + "?", 199);
        fails(blanks(199) + ";", 199);
        fails(blanks(198) + "no", 198);
        fails(blanks(196) + "nose", 200);
        stands(blanks(193) + "nose 1;", 1);
        stands("nose 1;" + blanks(193), 1);
        fails(blanks(194) + "nose 1", 200);
    }

    // clear: "THE TEXT is empty: how many bytes it had"
    private static void cleared() {
        NineCats x = new NineCats();
        Due.is("clear() of an empty text", x.clear(), 0);
        x.type(0x7a, 1);
        Due.is("clear() of one byte", x.clear(), 1);
        Due.is("count(4)", x.count(4), 0);
        Due.type(x, "nose 4;");
        Due.is("what was cleared is not read", x.bridge(), 1);
        Due.is("now(2)", x.now(2), 4);
        Due.type(x, "nose 47;");
        x.clear();
        Due.type(x, "nose 4");
        Due.is("nor what lay behind it", x.bridge(), -16);
        Twins.unchanged("clear() of an empty text", NineCats::new, NineCats::clear, 0);
    }

    // "blanks (32) ahead of, between and behind TOKENS as may be"; "(none, too)"
    private static void blanksAlone() {
        stands("", 0);
        stands(" ", 0);
        stands(blanks(200), 0);
        stands("  nose  1  ;  sun  1  1  ;  ", 2);
        fails("no se 1;", 0);
        fails("nose 1 1;", 7);
        fails("sun 1 1 1;", 8);
        fails("bridge 1 1 1;", 11);
        fails("sleeper 1 1;", 10);
        fails("sleeper 0;follower 1 0 0;", 23);
    }

    // FAULT: "of a byte that begins none ... that TOKEN's": all bytes, ahead of, in and behind an item
    private static void everyByte() {
        for (int b = 0; b < 256; b++) {
            String sign = String.valueOf((char) b);
            boolean digit = b >= '0' && b <= '9';
            if (b == ' ') {
                stands(sign + "nose 1;", 1);
                stands("nose" + sign + "1;", 1);
                stands("nose 1" + sign + ";", 1);
                stands("nose 1;" + sign, 1);
            } else {
                fails(sign + "nose 1;", 0);
                fails("nose" + sign + "1;", b >= 'a' && b <= 'z' ? 0 : 4);
                fails("nose 1" + sign + ";", digit ? 5 : b == ';' ? 7 : 6);
                fails("nose 1;" + sign, 7);
                fails("nose 1;   " + sign, 10);
            }
        }
    }

    // "none needed where TOKENS end without"
    private static void noBlankNeeded() {
        stands("bridge4 1;sleeper1;sunny3;fisher0;follower2 0;sun7 9;nose3;", 7);
        fails("bridge41;", 6);
        fails("sun12;", 3);
        fails("bridge1 1;sleeper00;", 17);
        fails("nose3nose3;", 5);
        fails("3;", 0);
        fails("nosenose3;", 0);
    }

    // "ITEMS (none, too), each ended by ;"
    private static void items() {
        stands(MOST_ITEMS, 8);
        fails(MOST_ITEMS + ";", MOST_ITEMS.length());
        fails(";" + MOST_ITEMS, 0);
        fails("nose 1 sun 1 1;", 7);
        fails("nose;", 4);
        fails("sun 1;", 5);
        fails("bridge 1;", 8);
        fails("bridge;", 6);
        fails("sleeper;", 7);
        fails("sleeper 0;follower 1;", 20);
    }

    // FAULT: "the text's length, if it ends too early"
    private static void textsCutOff() {
        cutOff("", "bridge 1 1;", 0, 0, 0, 0, 0, 0, 6, 7, 8, 9, 10);
        cutOff("", "sleeper 0;", 0, 0, 0, 0, 0, 0, 0, 7, 8, 9);
        cutOff("", "sunny 0;", 0, 0, 0, 3, 0, 5, 6, 7);
        cutOff("", "fisher 0;", 0, 0, 0, 0, 0, 0, 6, 7, 8);
        cutOff("sleeper 0;", "follower 1 0;", 0, 0, 0, 0, 0, 0, 0, 0, 8, 9, 10, 11, 12);
        cutOff("", "sun 1 2;", 0, 0, 0, 3, 4, 5, 6, 7);
        cutOff("sun 1 2;", "nose 3;", 0, 0, 0, 0, 4, 5, 6);
    }

    /** The places (from the item's begin) for the item cut behind 1, 2 .. bytes; cut behind none, it is not there. */
    private static void cutOff(String head, String item, int... places) {
        int items = head.isEmpty() ? 0 : 1;
        stands(head, items);
        for (int n = 1; n < item.length(); n++) {
            fails(head + item.substring(0, n), head.length() + places[n]);
            fails(head + item.substring(0, n) + "  ", head.length() + (places[n] == n ? n + 2 : places[n]));
        }
        stands(head + item, items + 1);
    }

    // "TOKENS are words of letters a .. z (bridge, sleeper, ..)"; FAULT: "a word that is none of these"
    private static void wordsLettered() {
        for (String word : WORDS) {
            for (int i = 0; i <= word.length(); i++) {
                for (char letter = 'a'; letter <= 'z'; letter += 25) {
                    fails("nose 1; " + word.substring(0, i) + letter + word.substring(i) + " 0 0;", 8);
                    if (i < word.length()) {
                        fails("nose 1; " + word.substring(0, i) + letter + word.substring(i + 1) + " 0 0;", 8);
                    }
                }
            }
            fails("nose 1; " + word.substring(1) + " 0 0;", 8);
            fails("nose 1; " + word + word + " 0 0;", 8);
            fails("nose 1; " + word.toUpperCase() + " 0 0;", 8);
        }
        fails("nose nose;", 5);
        fails("nose x;", 5);
        fails("nose 1 x;", 7);
    }

    /** A number between head and tail: the least and the most stand, what is beyond or written otherwise is its fault. */
    private static void number(String head, String tail, int least, int most) {
        int items = (head + tail).replaceAll("[^;]", "").length();
        stands(head + least + tail, items);
        stands(head + most + tail, items);
        String[] bad = {"" + (most + 1), "99", "100", "999", "0" + least, "0" + most, "00", "000", "010",
            "" + (256 + least), "2147483648", "" + ((1L << 32) + least), "18446744073709551616", "-1"};
        for (String number : bad) {
            fails(head + number + tail, head.length());
        }
        if (least > 0) {
            fails(head + (least - 1) + tail, head.length());
        }
        fails(head + "x" + tail, head.length());
    }

    // "bridge L W": LONG (1 .. 8), WIDE (1 .. 3)
    private static void numbersOfABridge() {
        for (int other = 1; other <= 3; other++) {
            number("bridge ", " " + other + ";", 1, 8);
            number("bridge " + (other * 3 - 1) + " ", ";", 1, 3);
        }
    }

    // "sleeper C, sunny C, fisher C, follower C K (C a CELL ..)"
    private static void numbersOfCats() {
        int[][] bridges = {{1, 1}, {1, 3}, {3, 1}, {8, 1}, {5, 2}, {3, 3}, {8, 2}, {8, 3}};
        for (int[] bridge : bridges) {
            String head = "bridge " + bridge[0] + " " + bridge[1] + ";";
            int last = bridge[0] * bridge[1] - 1;
            number(head + "sleeper ", ";", 0, last);
            number(head + "sunny ", ";", 0, last);
            number(head + "fisher ", ";", 0, last);
            if (last > 0) {
                number(head + "sleeper 1;follower ", " 0;", 0, last);
            }
        }
        number("sleeper ", ";", 0, 9);
    }

    // "sun S P, nose N": 0 .. 7 and 1 .. 9, 0 .. 9, however LONG it is
    private static void numbersOfSunAndNose() {
        for (String head : new String[] {"", "bridge 1 1;", "bridge 8 3;"}) {
            number(head + "sun ", " 1;", 0, 7);
            number(head + "sun 7 ", ";", 1, 9);
            number(head + "nose ", ";", 0, 9);
        }
    }

    // "bridge L W (the first of all, if it is told)"; FAULT: "bridge behind another ITEM"
    private static void bridgeFirst() {
        String[] ahead = {"bridge 1 1;", "sleeper 0;", "sunny 0;", "fisher 0;", "sleeper 0;follower 1 0;", "sun 0 1;", "nose 0;"};
        for (String items : ahead) {
            fails(items + "bridge 5 2;", items.length());
            fails(items + "  bridge", items.length() + 2);
        }
        stands("   bridge 5 2;", 1);
    }

    // "sun S P, nose N (once each at most)"; FAULT: "what is told again that may not"
    private static void onceEach() {
        for (String between : new String[] {"", "sleeper 0;", "nose 1;", "nose 1;fisher 2;"}) {
            fails("sun 0 1;" + between + "sun 0 1;", 8 + between.length());
        }
        for (String between : new String[] {"", "sleeper 0;", "sun 1 1;", "sun 1 1;fisher 2;"}) {
            fails("nose 0;" + between + "nose 0;", 7 + between.length());
        }
        stands("sleeper 0;sleeper 1;sunny 2;sunny 3;", 4);
    }

    // CATS "(5 at most)"; FAULT: "a sixth cat"
    private static void sixthCat() {
        String five = "sleeper 0;sunny 1;fisher 2;follower 3 0;sleeper 4;";
        stands(five, 5);
        stands(five + "nose 1;sun 1 1;", 7);
        for (String sixth : new String[] {"sleeper 5;", "sunny 5;", "fisher 5;", "follower 5 4;", "sleeper 0;", "sleeper", "fisher x"}) {
            fails(five + sixth, five.length());
            fails(five + "nose 1; " + sixth, five.length() + 8);
        }
    }

    // "no two in one"; FAULT: "a CELL that has one"
    private static void twoInOneCell() {
        for (String word : new String[] {"sleeper ", "sunny ", "fisher "}) {
            fails("bridge 8 3;" + word + "23;" + word + "23;", 11 + 2 * word.length() + 3);
            fails("bridge 1 1;" + word + "0;" + word + "0;", 11 + 2 * word.length() + 2);
            fails("sleeper 0;" + word + "0", 10 + word.length());
        }
        fails("sunny 1;sunny 2;sunny 3;sunny 4;follower 1 0;", 41);
        fails("sunny 1;sunny 2;sunny 3;sunny 4;follower 4 9;", 41);
    }

    // FOLLOWS "another one told ahead": "K a cat told ahead"
    private static void toldAhead() {
        fails("follower 0 0;", 11);
        fails("follower 0 1;", 11);
        String ahead = "";
        for (int cats = 1; cats <= 4; cats++) {
            ahead = ahead + "sleeper " + (cats - 1) + ";";
            number(ahead + "follower 9 ", ";", 0, cats - 1);
        }
        fails("nose 1;sun 1 1;sleeper 1;follower 0 1;", 36);
    }

    // "the first TOKEN that can't stand there"
    private static void firstFaultCounts() {
        fails("nose 10;sun 9 9;", 5);
        fails("nose 1;sun 9 0;?", 11);
        fails("nose 1;sun 7 0;?", 13);
        fails("sleeper 10;sleeper", 8);
        fails("? nose", 0);
        fails("follower 10 9;", 9);
        fails("bridge 9 4;", 7);
    }

    // bridge: "-10 less FAULT: nothing changes (THE TEXT, too, stays)"
    private static void faultChangesNothing() {
        String[] texts = {"x", "bridge 3 3;sun 1 1;nose 1;sleeper 8;sleeper 8;", "bridge 1 1;sleeper 1;", "nose 1",
            "sun 7 9;nose 9;fisher 0;sunny 1;fisher 2;sunny 3;fisher 4;sunny 5;"};
        int[] places = {0, 44, 19, 6, 58};
        for (int i = 0; i < texts.length; i++) {
            String text = texts[i];
            Twins.unchanged("bridge() of '" + text + "'", () -> Made.busy(text), NineCats::bridge, -10 - places[i]);
        }
    }

    private static void aTextStaysBehindItsFault() {
        NineCats x = new NineCats();
        Due.type(x, "nose");
        Due.is("bridge() of 'nose'", x.bridge(), -14);
        Due.type(x, " 4");
        Due.is("bridge() of 'nose 4'", x.bridge(), -16);
        Due.is("now(2)", x.now(2), 3);
        Due.type(x, ";");
        Due.is("bridge() of 'nose 4;'", x.bridge(), 1);
        Due.is("now(2)", x.now(2), 4);
        Due.is("THE TEXT is empty then", x.clear(), 0);
    }
}
