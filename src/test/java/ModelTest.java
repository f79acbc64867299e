/** Long runs of calls, the same on an object and on the model: every answer must be the same. */
public final class ModelTest {
    private static final int RUNS = 300;
    private static final int CALLS = 512;
    private static final String[] WORDS = {"cook", "boy", "rebel", "poacher", "pupil", "leader", "needs 2", "needs 21",
        "reason 0", "reason 99", "watched 3", "watched 100", "eggs 30", "eggs 1000", "laid 9", "laid 100", ";", ";", ";",
        "needs", "reason", "watched", "eggs", "laid", " ", "x", "7", "0007", "~", "A"};
    private static final String[] ITEMS = {"cook", "boy needs 7", "rebel reason 0", "poacher watched 2", "pupil",
        "leader needs 1 reason 3", "eggs 300", "laid 20", "cook needs 3 reason 1 watched 1"};

    // A generator of our own, so that every run of the tests makes the same calls.
    private long seed;
    private int calls = 0;

    private ModelTest(long seed) {
        this.seed = seed * 0x9e3779b97f4a7c15L + 1;
    }

    public static void main(String[] args) {
        for (int run = 0; run < RUNS; run++) new ModelTest(run).run(run);
        Check.end();
    }

    private int below(int n) {
        seed = seed * 6364136223846793005L + 1442695040888963407L;
        return (int) ((seed >>> 33) % n);
    }

    /** Most often a number from a to b; else one at the edges, or far off. */
    private int about(int a, int b) {
        int which = below(40);
        if (which == 0) return a - 1;
        if (which == 1) return b + 1;
        if (which == 2) return below(2) == 0 ? Integer.MIN_VALUE : Integer.MAX_VALUE;
        if (which <= 5) return a;
        if (which <= 8) return b;
        return a + below(b - a + 1);
    }

    private int someone() {
        return below(30) == 0 ? about(0, 8) : below(8);
    }

    private void run(int run) {
        EggReasons x = new EggReasons();
        Model m = new Model();
        int people = below(9);
        for (int i = 0; i < people; i++) due(run, "person", x.person(i * 5 % 6), m.person(i * 5 % 6));
        while (calls < CALLS) {
            if (below(30) == 0 && calls + 130 < CALLS) feed(run, x, m);
            else one(run, below(37), x, m);
        }
    }

    private void feed(int run, EggReasons x, Model m) {
        StringBuilder text = new StringBuilder();
        int words = 1 + below(5);
        boolean isSound = below(3) > 0;
        for (int i = 0; i < words; i++) {
            text.append(isSound ? ITEMS[below(ITEMS.length)] : WORDS[below(WORDS.length)]);
            text.append(isSound && i < words - 1 ? ";" : below(3) == 0 ? "" : " ");
        }
        for (int i = 0; i < text.length(); i++) due(run, "feed", x.feed(text.charAt(i), 1), m.feed(text.charAt(i), 1));
        due(run, "text " + text, x.text(), m.text());
    }

    private void one(int run, int call, EggReasons x, Model m) {
        if (call < 13) house(run, call, x, m);
        else if (call < 26) best(run, call, x, m);
        else rest(run, call, x, m);
    }

    private void house(int run, int call, EggReasons x, Model m) {
        int p = someone();
        int what = about(0, 5);
        int n = about(0, 100);
        int kind = about(0, 5);
        switch (call) {
            case 0 -> {
                int which = about(0, 2);
                int v = which == 0 ? about(0, below(4) == 0 ? 999 : 60) : which == 1 ? about(0, below(4) == 0 ? 99 : 30)
                    : about(0, below(12) == 0 ? 99999999 : 1000);
                due(run, "house " + which + " " + v, x.house(which, v), m.house(which, v));
            }
            case 1 -> due(run, "now " + what, x.now(what + 1), m.now(what + 1));
            case 2 -> due(run, "person " + kind, x.person(kind), m.person(kind));
            case 3 -> due(run, "of " + p + " " + what, x.of(p, what), m.of(p, what));
            case 4 -> {
                int which = about(0, 1);
                int eggs = about(0, below(2) == 0 ? 999 : 40);
                due(run, "says " + p + " " + which + " " + eggs, x.says(p, which, eggs), m.says(p, which, eggs));
            }
            case 5, 6 -> {
                int which = about(1, 4);
                int v = about(0, which == 1 ? 20 : which == 4 ? 99999 : below(2) == 0 ? 99 : 3);
                due(run, "set " + p + " " + which + " " + v, x.set(p, which, v), m.set(p, which, v));
            }
            case 7 -> due(run, "turn " + p + " " + kind, x.turn(p, kind), m.turn(p, kind));
            case 8 -> due(run, "as " + p + " " + kind, x.as(p, kind), m.as(p, kind));
            case 9 -> {
                int other = someone();
                due(run, "swap " + p + " " + other, x.swap(p, other), m.swap(p, other));
            }
            case 10 -> {
                int eggs = about(1, below(2) == 0 ? 9 : 99);
                due(run, "breaks " + p + " " + eggs, x.breaks(p, eggs), m.breaks(p, eggs));
            }
            default -> {
                int gone = below(2) == 0 ? about(1, 4) : n;
                due(run, "days " + gone, x.days(gone), m.days(gone));
            }
        }
    }

    private void best(int run, int call, EggReasons x, Model m) {
        int p = someone();
        int n = about(0, 100);
        int tried = below(2) == 0 ? about(1, 60) : about(1, 10);
        int v = about(0, below(2) == 0 ? 99999999 : 3000);
        switch (call) {
            case 13 -> {
                int what = about(0, 3);
                due(run, "on " + n + " " + what, x.on(n, what), m.on(n, what));
            }
            case 14 -> {
                int what = about(0, 1);
                due(run, "then " + p + " " + n + " " + what, x.then(p, n, what), m.then(p, n, what));
            }
            case 15 -> due(run, "hunger", x.hunger(), m.hunger());
            case 16 -> due(run, "comes " + v, x.comes(v), m.comes(v));
            case 17 -> due(run, "watched " + p, x.watched(p), m.watched(p));
            case 18 -> due(run, "turns " + tried, x.turns(tried), m.turns(tried));
            case 19 -> {
                // Near what it comes to anyway, so that the answer lies within.
                int near = below(4) == 0 ? v : (int) Math.min(99999999L, Math.max(0L, m.home.column + below(2000)));
                due(run, "reason " + p + " " + tried + " " + near, x.reason(p, tried, near), m.reason(p, tried, near));
            }
            case 20 -> due(run, "enough " + tried, x.enough(tried), m.enough(tried));
            case 21 -> due(run, "kind " + p + " " + tried, x.kind(p, tried), m.kind(p, tried));
            case 22 -> due(run, "needs " + p + " " + tried, x.needs(p, tried), m.needs(p, tried));
            case 23 -> {
                int kept = about(1, 20);
                due(run, "keep " + kept, x.keep(kept), m.keep(kept));
            }
            case 24 -> due(run, "most " + n, x.most(n), m.most(n));
            default -> {
                int bytes = about(0, Integer.MAX_VALUE - 1);
                int count = about(1, 4);
                due(run, "feed " + bytes + " " + count, x.feed(bytes, count), m.feed(bytes, count));
            }
        }
    }

    private void rest(int run, int call, EggReasons x, Model m) {
        int s = about(0, 3);
        int t = about(0, 3);
        int p = someone();
        switch (call) {
            case 26 -> {
                int bits = new int[] {0, 8, 16, 16, 16, 16, 64, 64, 8, 7}[below(10)];
                int n = about(0, below(2) == 0 ? 40 : 3);
                due(run, "sheet " + s + " " + bits + " " + n, x.sheet(s, bits, n), m.sheet(s, bits, n));
            }
            case 27 -> {
                int i = about(0, below(2) == 0 ? 40 : 3);
                long v = below(2) == 0 ? below(120) - 10 : (long) below(Integer.MAX_VALUE) * below(Integer.MAX_VALUE) * (1 - 2 * below(2));
                due(run, "write " + s + " " + i + " " + v, x.write(s, i, v), m.write(s, i, v));
            }
            case 28 -> {
                int from = about(0, 3);
                int to = about(0, 3);
                int n = about(0, 5);
                due(run, "copy " + s + " " + from + " " + t + " " + to + " " + n, x.copy(s, from, t, to, n), m.copy(s, from, t, to, n));
            }
            case 29 -> due(run, "lays " + s, x.lays(s), m.lays(s));
            case 30 -> due(run, "book " + s, x.book(s), m.book(s));
            case 31 -> {
                if (below(2) == 0) due(run, "book " + s, x.book(s), m.book(s));
                due(run, "read " + s + " " + p, x.read(s, p), m.read(s, p));
            }
            case 32 -> due(run, "image", x.image(), m.image());
            case 33 -> due(run, "undo", x.undo(), m.undo());
            case 34 -> {
                int which = below(4);
                if (which == 0) due(run, "tear", x.tear(), m.tear());
                else if (which == 1) due(run, "text", x.text(), m.text());
                else due(run, "wipe", x.wipe(), m.wipe());
            }
            case 35 -> {
                int what = about(0, 3);
                due(run, "count " + what, x.count(what), m.count(what));
            }
            default -> {
                int which = about(-1, 6);
                due(run, "status " + which, x.status(which), m.status(which));
            }
        }
    }

    private void due(int run, String call, long got, long want) {
        calls++;
        Check.due("run " + run + ": " + call, got, want);
    }
}
