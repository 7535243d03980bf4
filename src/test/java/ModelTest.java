/** Promises 2 to 22 by long runs of calls, the same each time, against the model. */
public final class ModelTest {
    private static long seed = 20261119;

    private static int pick(int below) {
        seed = seed * 6364136223846793005L + 1442695040888963407L;
        return (int) ((seed >>> 33) % below);
    }

    public static void main(String[] args) {
        int scale = args.length > 0 ? Integer.parseInt(args[0]) : 1;
        texts(6000 * scale);
        for (int run = 0; run < 1000 * scale; run++) {
            play(run);
        }
        Due.end();
    }

    private static final String[] WORDS = {"sleeper", "sunny", "fisher", "follower"};

    private static String blanks() {
        return pick(6) == 0 ? "  ".substring(pick(2)) : "";
    }

    private static String bridgeText() {
        StringBuilder s = new StringBuilder();
        int l = 5;
        int w = 2;
        if (pick(8) > 0) {
            l = 1 + pick(8);
            w = 1 + pick(3);
            s.append("bridge ").append(l).append(' ').append(w).append(blanks()).append(';');
        }
        boolean[] taken = new boolean[l * w];
        int cats = Math.min(pick(6), pick(2) + l * w - 1);
        int sunAt = pick(cats + 2);
        int noseAt = pick(cats + 2);
        int k = 0;
        for (int i = 0; i <= cats; i++) {
            if (i == sunAt) {
                s.append("sun ").append(pick(8)).append(' ').append(1 + pick(9) % (1 + pick(9))).append(';');
            }
            if (i == noseAt) {
                s.append(blanks()).append("nose").append(blanks()).append(pick(10)).append(';');
            }
            if (i < cats) {
                int c = pick(l * w);
                while (taken[c]) {
                    c = (c + 1) % (l * w);
                }
                taken[c] = true;
                int habit = k == 0 ? pick(3) : pick(4);
                s.append(blanks()).append(WORDS[habit]).append(' ').append(c);
                if (habit == 3) {
                    s.append(' ').append(pick(k));
                }
                s.append(blanks()).append(';');
                k++;
            }
        }
        return s.append(blanks()).toString();
    }

    private static final String[] BITS = {"bridge", "sleeper", "sunny", "fisher", "follower", "sun", "nose",
        ";", " ", "0", "1", "2", "7", "9", "10", "23", "24", "99", "100", "00", "a", "\u0001", "\u0080", "-", "Z", "{", "/", ":"};

    private static String spoiled(String text) {
        StringBuilder s = new StringBuilder(text);
        int times = pick(3);
        for (int i = 0; i < times; i++) {
            int p = pick(s.length() + 1);
            int q = Math.min(s.length(), p + pick(3) * pick(4));
            s.replace(p, q, pick(3) > 0 ? BITS[pick(BITS.length)] : "");
        }
        if (pick(6) == 0) {
            s.setLength(pick(s.length() + 1));
        }
        if (pick(6) == 0) {
            s.append(text);
        }
        if (s.length() > 200) {
            s.setLength(200);
        }
        return s.toString();
    }

    private static void texts(int runs) {
        NineCats x = new NineCats();
        Model held = new Model();
        for (int i = 0; i < runs; i++) {
            String text = spoiled(bridgeText());
            if (i % 3 == 0) {
                // an object is promised to answer 512 calls
                x = new NineCats();
                held = new Model();
            }
            Model m = new Model();
            int items = m.read(text);
            Due.is("bridge() of '" + text + "'", Due.bridge(x, text), items);
            held = items < 0 ? held : m;
            same(x, held, "behind '" + text + "'");
        }
    }

    private static void same(NineCats x, Model m, String when) {
        Due.is("count(0) " + when, x.count(0), m.length);
        Due.is("count(1) " + when, x.count(1), m.width);
        Due.is("count(2) " + when, x.count(2), m.cats.size());
        Due.is("count(3) " + when, x.count(3), m.fish.size());
        Due.is("now(0) " + when, x.now(0), m.sunColumn());
        Due.is("now(1) " + when, x.now(1), m.pace);
        Due.is("now(2) " + when, x.now(2), m.nose);
        Due.is("now(3) " + when, x.now(3), m.minute);
        Due.is("now(4) " + when, x.now(4), m.walker);
        Due.is("now(5) " + when, x.now(5), m.over);
        for (int k = 0; k < m.cats.size(); k++) {
            Model.Cat cat = m.cats.get(k);
            Due.is("cat(" + k + ", 0) " + when, x.cat(k, 0), m.cell(cat));
            Due.is("cat(" + k + ", 1) " + when, x.cat(k, 1), cat.habit);
            Due.is("cat(" + k + ", 2) " + when, x.cat(k, 2), cat.leader);
            Due.is("cat(" + k + ", 3) " + when, x.cat(k, 3), cat.eaten);
        }
        for (int c = 0; c < m.cells(); c++) {
            Due.is("cell(" + c + ", 0) " + when, x.cell(c, 0), m.catIn(c));
            Due.is("cell(" + c + ", 1) " + when, x.cell(c, 1), m.fish.contains(c) ? 1 : 0);
            Due.is("cell(" + c + ", 2) " + when, x.cell(c, 2), m.walker == c ? 1 : 0);
        }
    }

    private static void catsAreWhereDue(NineCats x, Model m, String when) {
        for (int k = 0; k < m.cats.size(); k++) {
            Due.is("cat(" + k + ", 0) " + when, x.cat(k, 0), m.cell(m.cats.get(k)));
        }
        Due.is("count(3) " + when, x.count(3), m.fish.size());
        Due.is("now(4) " + when, x.now(4), m.walker);
    }

    private static void play(int run) {
        NineCats x = new NineCats();
        Model m = new Model();
        String text = bridgeText();
        String when = "in run " + run + " of '" + text + "'";
        Due.is("bridge() " + when, Due.bridge(x, text), m.read(text));
        Model[] images = new Model[2];
        for (int turn = 0; turn < 12 && Due.wrong() < 20; turn++) {
            m = act(x, m, images, when);
            catsAreWhereDue(x, m, when);
            ask(x, m, when);
        }
        same(x, m, when);
    }

    private static Model act(NineCats x, Model m, Model[] images, String when) {
        int what = pick(9);
        int n = pick(12);
        if (what == 0) {
            n = pick(20) - 1 + pick(2) * pick(40);
            Due.is("minutes(" + n + ") " + when, x.minutes(n), m.minutes(n));
        } else if (what < 4) {
            n = pick(m.cells() + 2) - 1;
            Due.is("drop(" + n + ") " + when, x.drop(n), m.drop(n));
        } else if (what < 5) {
            n = pick(m.width + 2) - 1;
            Due.is("enter(" + n + ") " + when, x.enter(n), m.enter(n));
        } else if (what < 7) {
            n = pick(7) - 1;
            Due.is("move(" + n + ") " + when, x.move(n), m.move(n));
        } else if (what == 7) {
            n = pick(2);
            Due.is("keep(" + n + ") " + when, x.keep(n), m.minute);
            images[n] = m.copy();
        } else {
            n = pick(2);
            Due.is("back(" + n + ") " + when, x.back(n), images[n] == null ? -2 : images[n].minute);
            return images[n] == null ? m : images[n].copy();
        }
        return m;
    }

    private static void ask(NineCats x, Model m, String when) {
        int what = pick(12);
        if (what == 0) {
            int[] bait = m.bait();
            Due.is("bait(0) " + when, x.bait(0), bait[0]);
            Due.is("bait(1) " + when, x.bait(1), bait[1]);
        } else if (what == 1) {
            Due.is("tenth(-1) " + when, x.tenth(-1), m.tenth(-1));
        } else if (what == 2) {
            int c = pick(m.cells() + 1);
            Due.is("tenth(" + c + ") " + when, x.tenth(c), m.tenth(c));
        } else if (what == 3) {
            int[] way = m.firstWay();
            Due.is("soonest() " + when, x.soonest(), way == null ? -9 : way.length);
            for (int i = 0; i < 12; i++) {
                Due.is("step(" + i + ") " + when, x.step(i), way == null ? -9 : i < way.length ? way[i] : -5);
            }
        } else if (what == 4) {
            later(x, m, when);
        } else if (what < 7) {
            int n = 1 + pick(8);
            int set = 0;
            for (int i = pick(5); i > 0; i--) {
                set |= 1 << pick(m.cells());
            }
            Due.is("marks(" + set + ", " + n + ") " + when, x.marks(set, n), m.waysThrough(set, n));
            Due.is("ways(" + n + ") " + when, x.ways(n), m.waysThrough(0, n));
        } else if (what == 7 && pick(8) == 0) {
            Due.is("close() " + when, x.close(), m.close());
        }
    }

    private static void later(NineCats x, Model m, String when) {
        Model ahead = m.empty();
        int apart = 5 + pick(8);
        for (int n = 0; n <= 40; n++) {
            for (int k = 0; n % apart == 0 && k < m.cats.size(); k++) {
                Due.is("at(" + k + ", " + n + ") " + when, x.at(k, n), ahead.cell(ahead.cats.get(k)));
            }
            ahead.pass();
        }
    }
}
