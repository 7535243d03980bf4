import java.util.ArrayList;
import java.util.List;
import java.util.TreeSet;
import java.util.regex.Matcher;
import java.util.regex.Pattern;

/** The document again, in the plainest way: ways are walked one by one or by sets of places. */
final class Model {
    static final int BAD = -1, STATE = -2, FULL = -3, NONE = -9;

    /** A cat; habit 0 to 3. */
    static final class Cat {
        int row, column, habit, leader, eaten;

        Cat(int row, int column, int habit, int leader) {
            this.row = row;
            this.column = column;
            this.habit = habit;
            this.leader = leader;
        }
    }

    int length = 5, width = 2, sun = 0, pace = 1, nose = 3;
    List<Cat> cats = new ArrayList<>();
    TreeSet<Integer> fish = new TreeSet<>();
    int minute = 0, walker = NONE, over = 0;

    Model copy() {
        Model m = new Model();
        m.length = length;
        m.width = width;
        m.sun = sun;
        m.pace = pace;
        m.nose = nose;
        for (Cat c : cats) {
            Cat d = new Cat(c.row, c.column, c.habit, c.leader);
            d.eaten = c.eaten;
            m.cats.add(d);
        }
        m.fish.addAll(fish);
        m.minute = minute;
        m.walker = walker;
        m.over = over;
        return m;
    }

    Model empty() {
        Model m = copy();
        m.walker = NONE;
        return m;
    }

    // ---- the text

    private static final Pattern TOKEN = Pattern.compile("[a-z]+|[0-9]+|;");

    /** Items, or -10 less the fault; the model is to be used only if there is none. */
    int read(String text) {
        List<String> tokens = new ArrayList<>();
        List<Integer> places = new ArrayList<>();
        Matcher m = TOKEN.matcher(text);
        int i = 0;
        while (true) {
            while (i < text.length() && text.charAt(i) == ' ') {
                i++;
            }
            places.add(i);
            if (i == text.length()) {
                tokens.add("end");
                break;
            }
            if (!m.find(i) || m.start() != i) {
                tokens.add("wrong");
                break;
            }
            String token = m.group();
            boolean digits = Character.isDigit(token.charAt(0));
            if (digits && (token.length() > 2 || token.length() == 2 && token.charAt(0) == '0')) {
                tokens.add("wrong");
                break;
            }
            tokens.add(token);
            i = m.end();
        }
        int items = 0;
        int t = 0;
        List<String> had = new ArrayList<>();
        while (true) {
            String word = tokens.get(t);
            if (word.equals("end") && places.get(t) == text.length() && t == tokens.size() - 1) {
                return items;
            }
            int[] ends;
            switch (word) {
                case "bridge":
                    ends = items > 0 ? null : new int[] {1, 8, 1, 3};
                    break;
                case "sun":
                    ends = had.contains(word) ? null : new int[] {0, 7, 1, 9};
                    break;
                case "nose":
                    ends = had.contains(word) ? null : new int[] {0, 9};
                    break;
                case "sleeper":
                case "sunny":
                case "fisher":
                    ends = cats.size() == 5 ? null : new int[] {0, length * width - 1};
                    break;
                case "follower":
                    ends = cats.size() == 5 ? null : new int[] {0, length * width - 1, 0, cats.size() - 1};
                    break;
                default:
                    ends = null;
            }
            if (ends == null) {
                return -10 - places.get(t);
            }
            boolean isCat = !word.equals("bridge") && !word.equals("sun") && !word.equals("nose");
            int[] numbers = new int[2];
            for (int k = 0; k < ends.length / 2; k++) {
                t++;
                String number = tokens.get(t);
                int v = Character.isDigit(number.charAt(0)) ? Integer.parseInt(number) : -1;
                if (v < ends[2 * k] || v > ends[2 * k + 1] || isCat && k == 0 && catIn(v) != NONE) {
                    return -10 - places.get(t);
                }
                numbers[k] = v;
            }
            t++;
            if (!tokens.get(t).equals(";")) {
                return -10 - places.get(t);
            }
            t++;
            items++;
            had.add(word);
            if (word.equals("bridge")) {
                length = numbers[0];
                width = numbers[1];
            } else if (word.equals("sun")) {
                sun = numbers[0];
                pace = numbers[1];
            } else if (word.equals("nose")) {
                nose = numbers[0];
            } else {
                int habit = List.of("sleeper", "sunny", "fisher", "follower").indexOf(word);
                cats.add(new Cat(numbers[0] / length, numbers[0] % length, habit, habit == 3 ? numbers[1] : NONE));
            }
        }
    }

    // ---- minutes

    int cell(Cat c) {
        return c.row * length + c.column;
    }

    int catIn(int c) {
        for (int k = 0; k < cats.size(); k++) {
            if (cell(cats.get(k)) == c) {
                return k;
            }
        }
        return NONE;
    }

    int cells() {
        return length * width;
    }

    int sunColumn() {
        return (sun % length + minute / pace) % length;
    }

    private void stepTowards(Cat cat, int row, int column) {
        int toRow = cat.row;
        int toColumn = cat.column;
        if (column > toColumn) {
            toColumn++;
        } else if (column < toColumn) {
            toColumn--;
        } else if (row > toRow) {
            toRow++;
        } else if (row < toRow) {
            toRow--;
        }
        int to = toRow * length + toColumn;
        if (catIn(to) == NONE && walker != to) {
            cat.row = toRow;
            cat.column = toColumn;
        }
    }

    int pass() {
        int column = sunColumn();
        for (Cat cat : cats) {
            if (cat.habit == 1) {
                stepTowards(cat, cat.row, column);
            } else if (cat.habit == 2) {
                int near = NONE;
                int best = nose;
                for (int f : fish.descendingSet()) {
                    int steps = Math.abs(f / length - cat.row) + Math.abs(f % length - cat.column);
                    if (steps <= best) {
                        best = steps;
                        near = f;
                    }
                }
                if (near != NONE) {
                    stepTowards(cat, near / length, near % length);
                }
            } else if (cat.habit == 3) {
                stepTowards(cat, cats.get(cat.leader).row, cats.get(cat.leader).column);
            }
        }
        int eaten = 0;
        for (Cat cat : cats) {
            if (fish.remove(cell(cat))) {
                cat.eaten++;
                eaten++;
            }
        }
        minute++;
        return eaten;
    }

    int minutes(int n) {
        if (n < 1 || n > 40) {
            return BAD;
        }
        if (minute + n > 199) {
            return STATE;
        }
        int eaten = 0;
        for (int i = 0; i < n; i++) {
            eaten += pass();
        }
        return eaten;
    }

    int drop(int c) {
        if (c < 0 || c >= cells()) {
            return BAD;
        }
        if (fish.contains(c) || catIn(c) != NONE) {
            return STATE;
        }
        if (fish.size() == 4) {
            return FULL;
        }
        fish.add(c);
        return fish.size();
    }

    int enter(int row) {
        if (row < 0 || row >= width) {
            return BAD;
        }
        if (walker != NONE || catIn(row * length) != NONE || minute == 199) {
            return STATE;
        }
        walker = row * length;
        pass();
        return walker;
    }

    int move(int how) {
        if (how < 0 || how > 4) {
            return BAD;
        }
        if (walker == NONE || minute == 199) {
            return STATE;
        }
        int row = walker / length + (how == 1 ? -1 : how == 2 ? 1 : 0);
        int column = walker % length + (how == 0 ? 1 : how == 3 ? -1 : 0);
        if (row < 0 || row >= width) {
            return STATE;
        }
        boolean gone = column < 0 || column >= length;
        if (!gone && catIn(row * length + column) != NONE) {
            return STATE;
        }
        if (column == length) {
            over++;
        }
        walker = gone ? NONE : row * length + column;
        pass();
        return walker;
    }

    // ---- ways: a place is a cell, -1 ahead of the bridge, -2 over

    static final int AHEAD = -1, OVER = -2, NOWHERE = -3;

    /** Where he comes to from a place, NOWHERE if he may not or is touched; cats ahead of and behind it. */
    private int come(int place, int step, Model before, Model after) {
        int to;
        if (place == AHEAD) {
            if (step == 8) {
                return AHEAD;
            }
            if (step < 5 || step - 5 >= width) {
                return NOWHERE;
            }
            to = (step - 5) * length;
        } else {
            if (step > 4) {
                return NOWHERE;
            }
            int row = place / length + (step == 1 ? -1 : step == 2 ? 1 : 0);
            int column = place % length + (step == 0 ? 1 : step == 3 ? -1 : 0);
            if (column == length) {
                return OVER;
            }
            if (column < 0 || row < 0 || row >= width) {
                return NOWHERE;
            }
            to = row * length + column;
        }
        return before.catIn(to) != NONE && to != place || after.catIn(to) != NONE ? NOWHERE : to;
    }

    private List<Model> minutesAhead(int n) {
        List<Model> all = new ArrayList<>();
        Model m = empty();
        for (int t = 0; t <= n; t++) {
            all.add(m);
            m = m.copy();
            m.pass();
        }
        return all;
    }

    int soonest() {
        Model cat = empty();
        TreeSet<Integer> places = new TreeSet<>();
        places.add(AHEAD);
        for (int t = 1; t <= 40; t++) {
            Model before = cat;
            cat = cat.copy();
            cat.pass();
            TreeSet<Integer> next = new TreeSet<>();
            for (int place : places) {
                for (int step = 0; step <= 8; step++) {
                    int to = come(place, step, before, cat);
                    if (to == OVER) {
                        return t;
                    }
                    if (to != NOWHERE) {
                        next.add(to);
                    }
                }
            }
            places = next;
        }
        return NONE;
    }

    /** Whether there is a way from this place in minute t that is over in just n; the steps are put into the row. */
    private boolean walk(List<Model> ahead, int place, int t, int n, int[] steps, boolean[][] dead) {
        if (t == n || dead[t][place + 1]) {
            return false;
        }
        for (int step = 0; step <= 8; step++) {
            int to = come(place, step, ahead.get(t), ahead.get(t + 1));
            steps[t] = step;
            if (to == OVER && t + 1 == n || to >= AHEAD && walk(ahead, to, t + 1, n, steps, dead)) {
                return true;
            }
        }
        dead[t][place + 1] = true;
        return false;
    }

    int[] firstWay() {
        int n = soonest();
        if (n == NONE) {
            return null;
        }
        int[] steps = new int[n];
        walk(minutesAhead(n), AHEAD, 0, n, steps, new boolean[n][cells() + 1]);
        return steps;
    }

    /** Each way by itself, so for few minutes alone. */
    long waysThrough(int set, int n) {
        return count(minutesAhead(n), AHEAD, 0, n, set);
    }

    private long count(List<Model> ahead, int place, int t, int n, int missing) {
        int left = place >= 0 ? missing & ~(1 << place) : missing;
        if (t == n) {
            return 0;
        }
        long sum = 0;
        for (int step = 0; step <= 8; step++) {
            int to = come(place, step, ahead.get(t), ahead.get(t + 1));
            if (to == OVER) {
                sum += t + 1 == n && left == 0 ? 1 : 0;
            } else if (to != NOWHERE) {
                sum += count(ahead, to, t + 1, n, left);
            }
        }
        return sum;
    }

    /** The cell and the soonest then. */
    int[] bait() {
        int[] best = {NONE, NONE};
        if (fish.size() >= 4) {
            return best;
        }
        for (int c = cells() - 1; c >= 0; c--) {
            if (!fish.contains(c) && catIn(c) == NONE) {
                Model m = empty();
                m.fish.add(c);
                int s = m.soonest();
                if (best[0] == NONE || rank(s) <= rank(best[1])) {
                    best[0] = c;
                    best[1] = s;
                }
            }
        }
        return best;
    }

    private static int rank(int soonest) {
        return soonest == NONE ? 1000 : soonest;
    }

    private Model with(int... sleepers) {
        Model m = empty();
        for (int c : sleepers) {
            m.cats.add(new Cat(c / length, c % length, 0, NONE));
        }
        return m;
    }

    int tenth(int c) {
        if (c == -1) {
            int worst = NONE;
            int most = 0;
            for (int i = 0; i < cells(); i++) {
                if (catIn(i) == NONE && rank(with(i).soonest()) > most) {
                    worst = i;
                    most = rank(with(i).soonest());
                }
            }
            return worst;
        }
        if (c < 0 || c >= cells() || catIn(c) != NONE) {
            return BAD;
        }
        return with(c).soonest();
    }

    int close() {
        if (soonest() == NONE) {
            return 0;
        }
        List<Integer> free = new ArrayList<>();
        for (int c = 0; c < cells(); c++) {
            if (catIn(c) == NONE) {
                free.add(c);
            }
        }
        int least = 4;
        for (int a : free) {
            if (with(a).soonest() == NONE) {
                return 1;
            }
        }
        for (int a : free) {
            for (int b : free) {
                if (a < b && with(a, b).soonest() == NONE) {
                    return 2;
                }
            }
        }
        for (int a : free) {
            for (int b : free) {
                for (int c : free) {
                    if (a < b && b < c && with(a, b, c).soonest() == NONE) {
                        return 3;
                    }
                }
            }
        }
        return least > 3 ? NONE : least;
    }
}
