import java.util.Arrays;

/** The tollkeeper's bridge, its cats, its fish and the one who walks over it. */
public final class NineCats {
    public static final int BAD = -1, STATE = -2, FULL = -3, NONE = -9;
    public static final int NO = -1000000;

    private static final int TEXT_MOST = 200, FAULT_FIRST = -10, NOT_SO_MANY = -5;
    private static final int LONG_MOST = 8, WIDE_MOST = 3, CELLS_MOST = LONG_MOST * WIDE_MOST;
    private static final int CATS_MOST = 5, MORE_MOST = 3, FISH_MOST = 4, MARKS_MOST = 4;
    private static final int SUN_MOST = 7, PACE_MOST = 9, NOSE_MOST = 9;
    private static final int LAST_MINUTE = 199, FAR = 40, WAYS_FAR = 20;
    private static final int SLEEPS = 0, SUN = 1, FISH = 2, FOLLOWS = 3;
    private static final int ON = 0, ROW_LESS = 1, ROW_MORE = 2, BACK = 3, STAY = 4, ENTER = 5, WAIT = 8;
    private static final int KINDS = 6, IMAGES = 2;

    private final byte[] text = new byte[TEXT_MOST];
    private int typed;
    private Plan told = new Plan();
    private Plan draft = new Plan();
    private final Reader reader = new Reader();
    private final Scene here = new Scene();
    private final Scene sketch = new Scene();
    private final Scene[] images = {new Scene(), new Scene()};
    private final boolean[] kept = new boolean[IMAGES];
    private final Walks walks = new Walks();
    private long traced;

    public NineCats() {
        here.startAs(told);
    }

    // ---- the bridge

    public int type(long v, int n) {
        if (n < 1 || n > 8) {
            return BAD;
        }
        if (typed + n > TEXT_MOST) {
            return FULL;
        }
        for (int i = n - 1; i >= 0; i--) {
            if (typed >= 0 && typed < text.length) {
                text[typed] = (byte) (v >>> (8 * i));
                typed++;
            }
        }
        return typed;
    }

    public int clear() {
        int had = typed;
        typed = 0;
        return had;
    }

    public int bridge() {
        draft.becomeAsAtFirst();
        int items = reader.readAll(text, typed, draft);
        if (items < 0) {
            return items;
        }
        Plan former = told;
        told = draft;
        draft = former;
        typed = 0;
        here.startAs(told);
        for (int i = 0; i < kept.length; i++) {
            kept[i] = false;
        }
        return items;
    }

    public int cat(int k, int what) {
        if (!isCat(k) || what < 0 || what > 3) {
            return BAD;
        }
        switch (what) {
            case 0:
                return here.cellOf(k);
            case 1:
                return told.habitOf(k);
            case 2:
                return told.habitOf(k) == FOLLOWS ? told.leaderOf(k) : NONE;
            default:
                return here.eatenBy(k);
        }
    }

    public int cell(int c, int what) {
        if (!told.isCell(c) || what < 0 || what > 2) {
            return BAD;
        }
        switch (what) {
            case 0:
                return here.catIn(c);
            case 1:
                return hasBit(here.fish, c) ? 1 : 0;
            default:
                return here.walker == c ? 1 : 0;
        }
    }

    public int now(int what) {
        switch (what) {
            case 0:
                return told.sunColumn(here.minute);
            case 1:
                return told.pace;
            case 2:
                return told.nose;
            case 3:
                return here.minute;
            case 4:
                return here.walker;
            case 5:
                return here.over;
            default:
                return BAD;
        }
    }

    // ---- minutes

    public int minutes(int n) {
        if (n < 1 || n > FAR) {
            return BAD;
        }
        if (here.minute + n > LAST_MINUTE) {
            return STATE;
        }
        int eaten = 0;
        for (int i = 0; i < n; i++) {
            eaten += here.passMinute(told);
        }
        return eaten;
    }

    public int drop(int c) {
        if (!told.isCell(c)) {
            return BAD;
        }
        if (hasBit(here.fish, c) || hasBit(here.taken, c)) {
            return STATE;
        }
        if (Integer.bitCount(here.fish) >= FISH_MOST) {
            return FULL;
        }
        here.fish |= 1 << c;
        return Integer.bitCount(here.fish);
    }

    public int enter(int row) {
        if (row < 0 || row >= told.width) {
            return BAD;
        }
        int c = row * told.length;
        if (here.walker != NONE || hasBit(here.taken, c) || here.minute >= LAST_MINUTE) {
            return STATE;
        }
        here.walker = c;
        here.passMinute(told);
        return here.walker;
    }

    public int move(int how) {
        if (how < ON || how > STAY) {
            return BAD;
        }
        if (here.walker == NONE || here.minute >= LAST_MINUTE) {
            return STATE;
        }
        int to = told.cellBy(here.walker, how);
        boolean leaves = to == NONE && (how == ON || how == BACK);
        if (!leaves && (to == NONE || hasBit(here.taken, to))) {
            return STATE;
        }
        if (leaves && how == ON) {
            here.over++;
        }
        here.walker = to;
        here.passMinute(told);
        return here.walker;
    }

    // ---- ways

    public int at(int k, int n) {
        if (!isCat(k) || n < 0 || n > FAR) {
            return BAD;
        }
        Scene later = sketchWith(0);
        for (int i = 0; i < n; i++) {
            later.passMinute(told);
        }
        return later.cellOf(k);
    }

    public int soonest() {
        return soonestWith(0);
    }

    public int step(int i) {
        if (i < 0) {
            return BAD;
        }
        int whole = soonestWith(0);
        if (whole == NONE) {
            return NONE;
        }
        if (i >= whole) {
            return NOT_SO_MANY;
        }
        return walks.firstWay(told, sketchWith(0), whole, i);
    }

    public long ways(int n) {
        if (n < 1 || n > WAYS_FAR) {
            return BAD;
        }
        return walks.countThrough(told, sketchWith(0), 0, n);
    }

    public int bait(int what) {
        if (what < 0 || what > 1) {
            return BAD;
        }
        int best = NONE;
        int least = NONE;
        int tried = Integer.bitCount(here.fish) < FISH_MOST ? told.cells() : 0;
        for (int c = 0; c < tried; c++) {
            if (!hasBit(here.fish | here.taken, c)) {
                int minutes = soonestBaited(c);
                if (best == NONE || isSooner(minutes, least)) {
                    best = c;
                    least = minutes;
                }
            }
        }
        return what == 0 ? best : least;
    }

    public int tenth(int c) {
        if (c == -1) {
            return worstCell();
        }
        if (!isFree(c)) {
            return BAD;
        }
        return soonestWith(1 << c);
    }

    public int close() {
        for (int more = 0; more <= MORE_MOST; more++) {
            if (canClose(told, here, sketch, 0, 0, more)) {
                return more;
            }
        }
        return NONE;
    }

    public long marks(int set, int n) {
        if ((set & ~told.allCells()) != 0 || Integer.bitCount(set) > MARKS_MOST || n < 1 || n > WAYS_FAR) {
            return BAD;
        }
        return walks.countThrough(told, sketchWith(0), set, n);
    }

    // ---- kinds, images

    public int mark(int kind, int k) {
        if (kind < 0 || kind >= KINDS || !isCat(k)) {
            return NO;
        }
        switch (kind) {
            case 0:
                return asCat(k);
            case 1:
                return asTom(k);
            case 2:
                return asKitten(k);
            case 3:
                return asGinger(k);
            case 4:
                return asStray(k);
            default:
                return asGhost(k);
        }
    }

    public int keep(int image) {
        if (!isImage(image)) {
            return BAD;
        }
        images[image].copyFrom(here);
        kept[image] = true;
        return here.minute;
    }

    public int back(int image) {
        if (!isImage(image)) {
            return BAD;
        }
        if (!kept[image]) {
            return STATE;
        }
        here.copyFrom(images[image]);
        return here.minute;
    }

    public int count(int what) {
        switch (what) {
            case 0:
                return told.length;
            case 1:
                return told.width;
            case 2:
                return told.cats;
            case 3:
                return Integer.bitCount(here.fish);
            case 4:
                return typed;
            default:
                return BAD;
        }
    }

    public long trace() {
        return traced;
    }

    // ---- what the calls share

    private boolean isCat(int k) {
        return k >= 0 && k < told.cats;
    }

    private boolean isFree(int c) {
        return told.isCell(c) && !hasBit(here.taken, c);
    }

    private boolean isImage(int image) {
        return image >= 0 && image < images.length && image < kept.length;
    }

    private Scene sketchWith(int sleepers) {
        sketch.foresee(here, sleepers);
        return sketch;
    }

    private int soonestWith(int sleepers) {
        return Walks.soonestFrom(told, sketchWith(sleepers));
    }

    private int soonestBaited(int c) {
        Scene baited = sketchWith(0);
        baited.fish |= 1 << c;
        return Walks.soonestFrom(told, baited);
    }

    private int worstCell() {
        int worst = NONE;
        int most = NONE;
        for (int c = 0; c < told.cells(); c++) {
            if (isFree(c)) {
                int minutes = Walks.soonestFrom(told, sketchWith(1 << c));
                if (worst == NONE || isSooner(most, minutes)) {
                    worst = c;
                    most = minutes;
                }
            }
        }
        return worst;
    }

    /** One sleeper more may open a way, by stopping another cat, so each set is tried by itself. */
    private static boolean canClose(Plan plan, Scene now, Scene sketch, int chosen, int first, int more) {
        if (more > MORE_MOST) {
            return false;
        }
        if (more <= 0) {
            sketch.foresee(now, chosen);
            return Walks.soonestFrom(plan, sketch) == NONE;
        }
        for (int c = first; c < plan.cells(); c++) {
            boolean free = !hasBit(now.taken, c);
            if (free && canClose(plan, now, sketch, chosen | 1 << c, c + 1, more - 1)) {
                return true;
            }
        }
        return false;
    }

    private int asCat(int k) {
        traced += 1;
        return here.cellOf(k);
    }

    private int asTom(int k) {
        traced += 10;
        return asCat(k) + told.habitOf(k);
    }

    private int asKitten(int k) {
        traced += 100;
        return asCat(k) - here.eatenBy(k);
    }

    private int asGinger(int k) {
        traced += 1000;
        return asTom(k) * 2;
    }

    private int asStray(int k) {
        traced += 10000;
        return asKitten(k) + k;
    }

    private int asGhost(int k) {
        traced += 100000;
        return asCat(k) + here.minute;
    }

    private static boolean isSooner(int minutes, int than) {
        return minutes != NONE && (than == NONE || minutes < than);
    }

    private static boolean hasBit(int mask, int i) {
        return i >= 0 && i < CELLS_MOST && (mask >>> i & 1) == 1;
    }

    /** Rows are used by these, so that no index can be out of its row. */
    private static int entry(int[] row, int i) {
        return i >= 0 && i < row.length ? row[i] : 0;
    }

    private static long entry(long[] row, int i) {
        return i >= 0 && i < row.length ? row[i] : 0;
    }

    private static void put(int[] row, int i, int value) {
        if (i >= 0 && i < row.length) {
            row[i] = value;
        }
    }

    private static void add(long[] row, int i, long value) {
        if (i >= 0 && i < row.length) {
            row[i] += value;
        }
    }

    /** What a text tells: it stays as it is till another text is read. */
    private static final class Plan {
        int length, width, sunFirst, pace, nose, cats;
        boolean bridgeMay, sunMay, noseMay;
        private final int[] starts = new int[CATS_MOST];
        private final int[] habits = new int[CATS_MOST];
        private final int[] leaders = new int[CATS_MOST];

        Plan() {
            becomeAsAtFirst();
        }

        void becomeAsAtFirst() {
            length = 5;
            width = 2;
            sunFirst = 0;
            pace = 1;
            nose = 3;
            cats = 0;
            bridgeMay = true;
            sunMay = true;
            noseMay = true;
        }

        void addCat(int c, int habit, int leader) {
            if (cats < CATS_MOST) {
                put(starts, cats, c);
                put(habits, cats, habit);
                put(leaders, cats, leader);
                cats++;
            }
        }

        int startOf(int k) {
            return entry(starts, k);
        }

        /** A cat more, beyond those that are told, sleeps. */
        int habitOf(int k) {
            return k < cats ? entry(habits, k) : SLEEPS;
        }

        int leaderOf(int k) {
            return entry(leaders, k);
        }

        boolean tellsCatIn(int c) {
            for (int k = 0; k < cats; k++) {
                if (startOf(k) == c) {
                    return true;
                }
            }
            return false;
        }

        int cells() {
            return length * width;
        }

        boolean isCell(int c) {
            return c >= 0 && c < cells();
        }

        int allCells() {
            return (1 << cells()) - 1;
        }

        int columnCells(int column) {
            int mask = 0;
            for (int row = 0; row < width; row++) {
                mask |= 1 << (row * length + column);
            }
            return mask;
        }

        int columnOf(int c) {
            return length < 1 ? 0 : c % length;
        }

        int sunColumn(int minute) {
            return length < 1 || pace < 1 ? 0 : (sunFirst + minute / pace) % length;
        }

        int stepsBetween(int one, int other) {
            if (length < 1) {
                return 0;
            }
            return Math.abs(one / length - other / length) + Math.abs(one % length - other % length);
        }

        int stepToColumn(int from, int column) {
            return from + oneTowards(columnOf(from), column);
        }

        int stepTowards(int from, int to) {
            int column = columnOf(to);
            if (column != columnOf(from)) {
                return from + oneTowards(columnOf(from), column);
            }
            return from + length * oneTowards(from, to);
        }

        private static int oneTowards(int from, int to) {
            if (from == to) {
                return 0;
            }
            return from < to ? 1 : -1;
        }

        /** The cell to which one comes by a move, NONE if it leads out of the bridge. */
        int cellBy(int c, int how) {
            switch (how) {
                case ON:
                    return columnOf(c) + 1 < length ? c + 1 : NONE;
                case ROW_LESS:
                    return c - length >= 0 ? c - length : NONE;
                case ROW_MORE:
                    return c + length < cells() ? c + length : NONE;
                case BACK:
                    return columnOf(c) > 0 ? c - 1 : NONE;
                default:
                    return c;
            }
        }

        /** These cells, and all that are one move away from one of them. */
        int spread(int mask) {
            int on = (mask & ~columnCells(length - 1)) << 1;
            int back = (mask & ~columnCells(0)) >>> 1;
            return (mask | on | back | mask << length | mask >>> length) & allCells();
        }
    }

    /** Reads a text into a plan, token by token, up to the first fault. */
    private static final class Reader {
        private static final int NO_FAULT = -1, NO_NUMBER = -1;
        private static final int END = 0, LETTERS = 1, DIGITS = 2, STOP = 3, WRONG = 4;
        /** The words for cats are numbered as their habits are. */
        private static final int BRIDGE_WORD = 4, SUN_WORD = 5, NOSE_WORD = 6, NO_WORD = 7;

        private byte[] text;
        private int size;
        private int token;
        private int start;
        private int end;
        private int fault;

        /** How many items there are, or FAULT_FIRST less the fault. */
        int readAll(byte[] bytes, int count, Plan plan) {
            text = bytes;
            size = bytes == null ? 0 : Math.min(count, bytes.length);
            end = 0;
            fault = NO_FAULT;
            takeToken();
            int items = 0;
            for (int i = 0; i <= size && token != END && fault == NO_FAULT; i++) {
                readItem(plan);
                items++;
            }
            return fault == NO_FAULT ? items : FAULT_FIRST - fault;
        }

        private void readItem(Plan plan) {
            int word = wordHere();
            if (!mayBegin(plan, word)) {
                fail();
                return;
            }
            takeToken();
            plan.bridgeMay = false;
            switch (word) {
                case BRIDGE_WORD:
                    plan.length = takeNumber(1, LONG_MOST);
                    plan.width = takeNumber(1, WIDE_MOST);
                    break;
                case SUN_WORD:
                    plan.sunMay = false;
                    plan.sunFirst = takeNumber(0, SUN_MOST);
                    plan.pace = takeNumber(1, PACE_MOST);
                    break;
                case NOSE_WORD:
                    plan.noseMay = false;
                    plan.nose = takeNumber(0, NOSE_MOST);
                    break;
                default:
                    readCat(plan, word);
            }
            takeStop();
        }

        private void readCat(Plan plan, int habit) {
            if (plan.tellsCatIn(numberHere())) {
                fail();
            }
            int c = takeNumber(0, plan.cells() - 1);
            int leader = habit == FOLLOWS ? takeNumber(0, plan.cats - 1) : NONE;
            plan.addCat(c, habit, leader);
        }

        private static boolean mayBegin(Plan plan, int word) {
            switch (word) {
                case BRIDGE_WORD:
                    return plan.bridgeMay;
                case SUN_WORD:
                    return plan.sunMay;
                case NOSE_WORD:
                    return plan.noseMay;
                case NO_WORD:
                    return false;
                default:
                    return plan.cats < CATS_MOST;
            }
        }

        /** The least of them, if there is a fault: the plan is not used then. */
        private int takeNumber(int least, int most) {
            int number = numberHere();
            if (number < least || number > most) {
                fail();
            }
            if (fault != NO_FAULT) {
                return least;
            }
            takeToken();
            return number;
        }

        private void takeStop() {
            if (token != STOP) {
                fail();
            }
            if (fault == NO_FAULT) {
                takeToken();
            }
        }

        /** The first fault alone is told. */
        private void fail() {
            if (fault == NO_FAULT) {
                fault = start;
            }
        }

        private void takeToken() {
            start = end;
            while (start < size && byteAt(start) == ' ') {
                start++;
            }
            token = start < size ? tokenOf(byteAt(start)) : END;
            end = Math.min(start + 1, size);
            boolean mayGoOn = token == LETTERS || token == DIGITS;
            while (mayGoOn && end < size && tokenOf(byteAt(end)) == token) {
                end++;
            }
        }

        private static int tokenOf(int first) {
            if (first >= 'a' && first <= 'z') {
                return LETTERS;
            }
            if (first >= '0' && first <= '9') {
                return DIGITS;
            }
            return first == ';' ? STOP : WRONG;
        }

        /** More than two digits are above 99, or have a 0 ahead: both are faults. */
        private int numberHere() {
            int digits = end - start;
            if (token != DIGITS || digits > 2 || digits == 2 && byteAt(start) == '0') {
                return NO_NUMBER;
            }
            int number = 0;
            for (int i = start; i < end; i++) {
                number = number * 10 + byteAt(i) - '0';
            }
            return number;
        }

        private int wordHere() {
            if (isWord("sleeper")) {
                return SLEEPS;
            }
            if (isWord("sunny")) {
                return SUN;
            }
            if (isWord("fisher")) {
                return FISH;
            }
            if (isWord("follower")) {
                return FOLLOWS;
            }
            if (isWord("bridge")) {
                return BRIDGE_WORD;
            }
            if (isWord("sun")) {
                return SUN_WORD;
            }
            return isWord("nose") ? NOSE_WORD : NO_WORD;
        }

        private boolean isWord(String word) {
            if (token != LETTERS || end - start != word.length()) {
                return false;
            }
            for (int i = 0; i < word.length(); i++) {
                if (byteAt(start + i) != word.charAt(i)) {
                    return false;
                }
            }
            return true;
        }

        private int byteAt(int i) {
            return text != null && i >= 0 && i < text.length ? text[i] & 255 : 0;
        }
    }

    /** How things stand in a minute. */
    private static final class Scene {
        private final int[] cells = new int[CATS_MOST + MORE_MOST];
        private final int[] eaten = new int[CATS_MOST + MORE_MOST];
        private int cats;
        /** Bits of cells: those with a cat, those with fish. */
        int taken, fish;
        int walker, minute, over;

        void startAs(Plan plan) {
            cats = 0;
            taken = 0;
            fish = 0;
            walker = NONE;
            minute = 0;
            over = 0;
            for (int k = 0; k < plan.cats; k++) {
                addCat(plan.startOf(k));
            }
        }

        void addCat(int c) {
            if (cats < cells.length) {
                put(cells, cats, c);
                put(eaten, cats, 0);
                taken |= 1 << c;
                cats++;
            }
        }

        void copyFrom(Scene other) {
            cats = other.cats;
            taken = other.taken;
            fish = other.fish;
            walker = other.walker;
            minute = other.minute;
            over = other.over;
            for (int k = 0; k < cats; k++) {
                put(cells, k, other.cellOf(k));
                put(eaten, k, other.eatenBy(k));
            }
        }

        /** The other one without its walker, and with more cats that sleep in these cells. */
        void foresee(Scene other, int sleepers) {
            copyFrom(other);
            walker = NONE;
            for (int c = 0; c < CELLS_MOST && sleepers != 0; c++) {
                if (hasBit(sleepers, c)) {
                    addCat(c);
                }
            }
        }

        int cellOf(int k) {
            return entry(cells, k);
        }

        int eatenBy(int k) {
            return entry(eaten, k);
        }

        int catIn(int c) {
            for (int k = 0; k < cats; k++) {
                if (cellOf(k) == c) {
                    return k;
                }
            }
            return NONE;
        }

        /** How much fish was eaten as the minute went by. */
        int passMinute(Plan plan) {
            for (int k = 0; k < cats; k++) {
                int from = cellOf(k);
                int to = wantedCell(plan, k, from);
                if (to != from && to != walker && !hasBit(taken, to)) {
                    taken ^= 1 << from | 1 << to;
                    put(cells, k, to);
                }
            }
            minute++;
            return eatFish();
        }

        private int wantedCell(Plan plan, int k, int from) {
            switch (plan.habitOf(k)) {
                case SUN:
                    return plan.stepToColumn(from, plan.sunColumn(minute));
                case FISH:
                    return plan.stepTowards(from, nearestFish(plan, from));
                case FOLLOWS:
                    return plan.stepTowards(from, cellOf(plan.leaderOf(k)));
                default:
                    return from;
            }
        }

        /** The cat's own cell, if it smells none. */
        private int nearestFish(Plan plan, int from) {
            int nearest = from;
            int least = plan.nose + 1;
            for (int c = 0; c < CELLS_MOST && fish != 0; c++) {
                if (hasBit(fish, c)) {
                    int steps = plan.stepsBetween(from, c);
                    if (steps < least) {
                        least = steps;
                        nearest = c;
                    }
                }
            }
            return nearest;
        }

        private int eatFish() {
            int all = 0;
            for (int k = 0; k < cats && fish != 0; k++) {
                int c = cellOf(k);
                if (hasBit(fish, c)) {
                    fish ^= 1 << c;
                    put(eaten, k, eatenBy(k) + 1);
                    all++;
                }
            }
            return all;
        }
    }

    /** Ways over the bridge; each call lets the minutes of the scene that it is given go by. */
    private static final class Walks {
        private static final int MARK_SETS = 1 << MARKS_MOST;

        /** By minutes from now: cells with a cat, and cells from which he is over in time. */
        private final int[] taken = new int[FAR + 1];
        private final int[] hopeful = new int[FAR + 1];
        /** By cell and by which of the marks he has been in. */
        private long[] counts = new long[CELLS_MOST * MARK_SETS];
        private long[] counting = new long[CELLS_MOST * MARK_SETS];

        static int soonestFrom(Plan plan, Scene scene) {
            int first = plan.columnCells(0);
            int last = plan.columnCells(plan.length - 1);
            int reached = 0;
            for (int t = 0; t < FAR; t++) {
                if ((reached & last) != 0) {
                    return t + 1;
                }
                int before = scene.taken;
                scene.passMinute(plan);
                reached = (plan.spread(reached) | first) & ~before & ~scene.taken;
            }
            return NONE;
        }

        /** The i-th step of the first of all ways of so many minutes, of which there must be one. */
        int firstWay(Plan plan, Scene scene, int whole, int i) {
            lookBack(plan, scene, whole);
            int place = NONE;
            int how = WAIT;
            for (int t = 0; t <= i && t < whole; t++) {
                how = place == NONE ? firstEntry(plan, t) : firstMove(plan, place, t, whole);
                if (how >= ENTER && how < WAIT) {
                    place = (how - ENTER) * plan.length;
                } else if (how <= STAY) {
                    place = plan.cellBy(place, how);
                }
            }
            return how;
        }

        private void lookBack(Plan plan, Scene scene, int whole) {
            for (int t = 0; t < whole; t++) {
                put(taken, t, scene.taken);
                scene.passMinute(plan);
            }
            put(hopeful, whole - 1, plan.columnCells(plan.length - 1));
            for (int t = whole - 2; t >= 0; t--) {
                int next = entry(hopeful, t + 1) & ~entry(taken, t) & ~entry(taken, t + 1);
                put(hopeful, t, plan.spread(next));
            }
        }

        private int firstEntry(Plan plan, int t) {
            for (int row = 0; row < plan.width; row++) {
                if (isHopeful(row * plan.length, t)) {
                    return ENTER + row;
                }
            }
            return WAIT;
        }

        private int firstMove(Plan plan, int place, int t, int whole) {
            if (t + 1 >= whole) {
                return ON;
            }
            for (int how = ON; how < STAY; how++) {
                if (isHopeful(plan.cellBy(place, how), t)) {
                    return how;
                }
            }
            return STAY;
        }

        /** Whether he can be in this cell after the minute t and still be over in time. */
        private boolean isHopeful(int c, int t) {
            return hasBit(entry(hopeful, t + 1) & ~entry(taken, t) & ~entry(taken, t + 1), c);
        }

        /** In how many ways of n minutes he comes through all cells of the set. */
        long countThrough(Plan plan, Scene scene, int set, int n) {
            Arrays.fill(counts, 0);
            for (int t = 1; t < n; t++) {
                int before = scene.taken;
                scene.passMinute(plan);
                countMinute(plan, set, before, scene.taken);
            }
            int all = (1 << Integer.bitCount(set)) - 1;
            long sum = 0;
            for (int row = 0; row < plan.width; row++) {
                sum += countAt(row * plan.length + plan.length - 1, all);
            }
            return sum;
        }

        private void countMinute(Plan plan, int set, int before, int after) {
            Arrays.fill(counting, 0);
            int seenSets = 1 << Integer.bitCount(set);
            for (int c = 0; c < plan.cells(); c++) {
                if (!hasBit(before | after, c)) {
                    int mark = hasBit(set, c) ? 1 << Integer.bitCount(set & ((1 << c) - 1)) : 0;
                    for (int seen = 0; seen < seenSets; seen++) {
                        add(counting, c * MARK_SETS + (seen | mark), countComing(plan, c, seen));
                    }
                }
            }
            long[] former = counts;
            counts = counting;
            counting = former;
        }

        /** Each move has its reverse, so those who come to a cell are where moves lead from it. */
        private long countComing(Plan plan, int c, int seen) {
            long sum = seen == 0 && plan.columnOf(c) == 0 ? 1 : 0;
            for (int how = ON; how <= STAY; how++) {
                sum += countAt(plan.cellBy(c, how), seen);
            }
            return sum;
        }

        private long countAt(int c, int seen) {
            return entry(counts, c * MARK_SETS + seen);
        }
    }
}
