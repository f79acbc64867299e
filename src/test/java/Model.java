import java.math.BigInteger;
import java.util.ArrayList;
import java.util.List;
import java.util.regex.Matcher;
import java.util.regex.Pattern;

/** The document told a second time, in other words: a class for each kind, lists, and a new house for each try. */
final class Model {
    static class Cook {
        int need = 3;
        int reason = 5;
        int watched = 0;
        int broke = 0;

        int kind() {
            return 0;
        }

        int wants(int d, int c) {
            return need;
        }

        int enters(int n) {
            return n * reason;
        }

        int isWatched(int n, int v) {
            return v < n ? 2 : 0;
        }

        final Cook as(int kind) {
            Cook one = Model.made(kind);
            one.need = need;
            one.reason = reason;
            one.watched = watched;
            one.broke = broke;
            return one;
        }
    }

    static class Boy extends Cook {
        int kind() {
            return 1;
        }

        int wants(int d, int c) {
            return d % 2 == 1 ? 1 : super.wants(d, c);
        }

        int enters(int n) {
            return 2 * n;
        }

        int isWatched(int n, int v) {
            return 0;
        }
    }

    static class Rebel extends Cook {
        int kind() {
            return 2;
        }

        int wants(int d, int c) {
            return c > 500 ? 4 * super.wants(d, c) : super.wants(d, c);
        }

        int enters(int n) {
            return super.enters(n) + n;
        }
    }

    static final class Poacher extends Cook {
        int kind() {
            return 3;
        }

        int wants(int d, int c) {
            return super.wants(d, c) + (d % 2 == 0 ? 1 : 0);
        }

        int enters(int n) {
            return 0;
        }

        int isWatched(int n, int v) {
            return 0;
        }
    }

    static final class Pupil extends Boy {
        int kind() {
            return 4;
        }

        int wants(int d, int c) {
            return super.wants(d, c) + 1;
        }

        int enters(int n) {
            return super.enters(n) + reason;
        }

        int isWatched(int n, int v) {
            return n > 5 ? 1 : super.isWatched(n, v);
        }
    }

    static final class Leader extends Rebel {
        int kind() {
            return 5;
        }

        int wants(int d, int c) {
            return super.wants(d, c) + (d % 10 == 0 ? 12 : 0);
        }

        int enters(int n) {
            return 2 * super.enters(n);
        }

        int isWatched(int n, int v) {
            return super.isWatched(n, v) + (n > 30 ? 1 : 0);
        }
    }

    static Cook made(int kind) {
        return switch (kind) {
            case 0 -> new Cook();
            case 1 -> new Boy();
            case 2 -> new Rebel();
            case 3 -> new Poacher();
            case 4 -> new Pupil();
            default -> new Leader();
        };
    }

    static final class State {
        int day = 0;
        int eggs = 50;
        int laid = 12;
        int column = 0;
        int hungry = 0;
        final List<Cook> people = new ArrayList<>();

        State twin() {
            State twin = new State();
            twin.day = day;
            twin.eggs = eggs;
            twin.laid = laid;
            twin.column = column;
            twin.hungry = hungry;
            for (Cook one : people) twin.people.add(one.as(one.kind()));
            return twin;
        }

        void breaks(Cook one, int n) {
            int v = one.enters(n);
            eggs -= n;
            one.broke = Math.min(99999, one.broke + n);
            column = Math.min(99999999, column + v);
            one.watched = one.isWatched(n, v);
        }

        State days(int n) {
            for (int i = 0; i < n; i++) day();
            return this;
        }

        void day() {
            eggs = Math.min(999, eggs + laid);
            double g = eggs;
            boolean isHungry = false;
            for (Cook one : people) {
                if (one.watched > 0) {
                    one.watched--;
                } else {
                    int wants = one.wants(day, column);
                    if (wants > 0 && eggs == 0) isHungry = true;
                    if (wants > 0 && eggs > 0) breaks(one, Math.min(wants, eggs));
                }
            }
            double broken = g - eggs;
            if (broken > g / 2) laid = Math.max(0, laid - 1);
            else if (broken < g / 4) laid = Math.min(99, laid + 1);
            if (isHungry) hungry = Math.min(9999, hungry + 1);
            day++;
        }
    }

    interface Change {
        void on(State s);
    }

    State home = new State();
    State kept = null;
    String tape = "";
    final long[][] sheets = new long[4][];
    final int[] bits = new int[4];
    final int[] told = new int[7];
    private static final int BEYOND = 0;
    private static final int FULL = 1;
    private static final int KIND = 2;
    private static final int NONE = 3;
    private static final int STATE = 4;
    private static final int MISSING = 5;
    private static final int SIZE = 6;

    private int tell(int finding) {
        told[finding]++;
        return -1000000001 - finding;
    }

    private static boolean in(long v, long a, long b) {
        return a <= v && v <= b;
    }

    private boolean one(int person) {
        return in(person, 0, home.people.size() - 1);
    }

    private State tried(int n, Change change) {
        State s = home.twin();
        change.on(s);
        return s.days(n);
    }

    private State tried(int n) {
        return tried(n, s -> { });
    }

    int house(int what, int v) {
        if (!in(what, 0, 2)) return tell(BEYOND);
        if (!in(v, 0, what == 0 ? 999 : what == 1 ? 99 : 99999999)) return tell(BEYOND);
        int was = now(what + 1);
        if (what == 0) home.eggs = v;
        if (what == 1) home.laid = v;
        if (what == 2) home.column = v;
        return was;
    }

    int now(int what) {
        if (!in(what, 0, 6)) return tell(BEYOND);
        int set = 0;
        int broke = 0;
        for (int i = 0; i < home.people.size(); i++) {
            if (home.people.get(i).watched != 0) set += 1 << i;
            broke += home.people.get(i).broke;
        }
        return new int[] {home.day, home.eggs, home.laid, home.column, home.hungry, set, broke}[what];
    }

    int person(int kind) {
        if (!in(kind, 0, 5)) return tell(BEYOND);
        if (home.people.size() == 8) return tell(FULL);
        home.people.add(made(kind));
        return home.people.size() - 1;
    }

    int of(int person, int what) {
        if (!one(person) || !in(what, 0, 5)) return tell(BEYOND);
        Cook o = home.people.get(person);
        return new int[] {o.kind(), o.need, o.reason, o.watched, o.broke, o.wants(home.day, home.column)}[what];
    }

    int says(int person, int what, int n) {
        if (!one(person) || !in(what, 0, 1) || !in(n, 0, 999)) return tell(BEYOND);
        Cook o = home.people.get(person);
        if (n == 0) return 0;
        return what == 0 ? o.enters(n) : o.isWatched(n, o.enters(n));
    }

    int set(int person, int what, int v) {
        if (!one(person) || !in(what, 1, 4)) return tell(BEYOND);
        if (!in(v, 0, new int[] {0, 20, 99, 99, 99999}[what])) return tell(BEYOND);
        Cook o = home.people.get(person);
        int was = of(person, what);
        if (what == 1) o.need = v;
        if (what == 2) o.reason = v;
        if (what == 3) o.watched = v;
        if (what == 4) o.broke = v;
        return was;
    }

    int turn(int person, int kind) {
        if (!one(person) || !in(kind, 0, 5)) return tell(BEYOND);
        Cook o = home.people.get(person);
        home.people.set(person, o.as(kind));
        return o.kind();
    }

    int as(int person, int kind) {
        if (!one(person) || !in(kind, 0, 5)) return tell(BEYOND);
        Cook o = home.people.get(person);
        if (!made(kind).getClass().isInstance(o)) return tell(KIND);
        return o.reason;
    }

    private static void change(State s, int a, int b) {
        Cook was = s.people.get(a);
        s.people.set(a, s.people.get(b));
        s.people.set(b, was);
    }

    int swap(int person, int other) {
        if (!one(person) || !one(other) || person == other) return tell(BEYOND);
        change(home, person, other);
        return 1;
    }

    int breaks(int person, int n) {
        if (!one(person) || !in(n, 1, 99)) return tell(BEYOND);
        if (home.people.get(person).watched > 0 || home.eggs < n) return tell(STATE);
        home.breaks(home.people.get(person), n);
        return home.column;
    }

    int days(int n) {
        if (!in(n, 1, 100)) return tell(BEYOND);
        if (home.day + n > 9999) return tell(STATE);
        return home.days(n).eggs;
    }

    int on(int n, int what) {
        if (!in(n, 0, 100) || !in(what, 0, 3)) return tell(BEYOND);
        State s = tried(n);
        return new int[] {s.eggs, s.laid, s.column, s.hungry}[what];
    }

    int then(int person, int n, int what) {
        if (!one(person) || !in(n, 0, 100) || !in(what, 0, 1)) return tell(BEYOND);
        Cook o = tried(n).people.get(person);
        return what == 0 ? o.watched : o.broke;
    }

    int hunger() {
        for (int n = 1; n <= 100; n++) if (tried(n).hungry > home.hungry) return n;
        return tell(NONE);
    }

    int comes(int v) {
        if (!in(v, 0, 99999999)) return tell(BEYOND);
        for (int n = 0; n <= 100; n++) if (tried(n).column >= v) return n;
        return tell(NONE);
    }

    int watched(int person) {
        if (!one(person)) return tell(BEYOND);
        for (int n = 0; n <= 100; n++) if (tried(n).people.get(person).watched > 0) return n;
        return tell(NONE);
    }

    int turns(int n) {
        if (!in(n, 1, 60)) return tell(BEYOND);
        int best = tried(n).column;
        int answer = -1;
        for (int pair = 0; pair < 78; pair++) {
            int a = pair / 10;
            int b = pair % 10;
            if (a >= b || !one(b)) continue;
            int column = tried(n, s -> change(s, a, b)).column;
            if (column > best) answer = pair;
            best = Math.max(best, column);
        }
        return answer < 0 ? tell(NONE) : answer;
    }

    int reason(int person, int n, int v) {
        if (!one(person) || !in(n, 1, 60) || !in(v, 0, 99999999)) return tell(BEYOND);
        for (int r = 0; r <= 99; r++) {
            int given = r;
            if (tried(n, s -> s.people.get(person).reason = given).column >= v) return r;
        }
        return tell(NONE);
    }

    int enough(int n) {
        if (!in(n, 1, 60)) return tell(BEYOND);
        for (int l = 0; l <= 99; l++) {
            int given = l;
            if (tried(n, s -> s.laid = given).hungry == home.hungry) return l;
        }
        return tell(NONE);
    }

    int kind(int person, int n) {
        if (!one(person) || !in(n, 1, 60)) return tell(BEYOND);
        int[] columns = new int[6];
        int best = 0;
        for (int k = 0; k < 6; k++) {
            int given = k;
            columns[k] = tried(n, s -> s.people.set(person, s.people.get(person).as(given))).column;
            if (columns[k] > columns[best]) best = k;
        }
        return best;
    }

    int needs(int person, int n) {
        if (!one(person) || !in(n, 1, 60)) return tell(BEYOND);
        int best = -1;
        for (int need = 0; need <= 20; need++) {
            int given = need;
            if (tried(n, s -> s.people.get(person).need = given).laid >= home.laid) best = need;
        }
        return best < 0 ? tell(NONE) : best;
    }

    int keep(int n) {
        if (!in(n, 1, 20)) return tell(BEYOND);
        for (int size = 0; size <= 8; size++) {
            for (int set = 0; set < 1 << home.people.size(); set++) {
                if (Integer.bitCount(set) != size) continue;
                int given = set;
                Change watch = s -> {
                    for (int i = 0; i < 8; i++) if ((given & 1 << i) != 0) s.people.get(i).watched = 99;
                };
                if (tried(n, watch).hungry == home.hungry) return set;
            }
        }
        return tell(NONE);
    }

    int most(int n) {
        if (!in(n, 0, 100)) return tell(BEYOND);
        if (home.people.isEmpty()) return tell(NONE);
        List<Cook> then = tried(n).people;
        int best = 0;
        for (int i = then.size() - 1; i >= 0; i--) if (then.get(i).broke >= then.get(best).broke) best = i;
        return best;
    }

    int feed(int bytes, int n) {
        if (!in(n, 1, 4)) return tell(BEYOND);
        if (tape.length() + n > 120) return tell(FULL);
        String all = "" + (char) (bytes >>> 24) + (char) (bytes >> 16 & 255) + (char) (bytes >> 8 & 255) + (char) (bytes & 255);
        tape += all.substring(4 - n);
        return tape.length();
    }

    int wipe() {
        int was = tape.length();
        tape = "";
        return was;
    }

    private static final Pattern TOKEN = Pattern.compile(" *([a-z]+|[0-9]+|;|\\z|[^ ])", Pattern.DOTALL);
    private static final List<String> KINDS = List.of("cook", "boy", "rebel", "poacher", "pupil", "leader");
    private static final List<String> OPTIONS = List.of("needs", "reason", "watched");

    /** The text by what may stand next: a machine of states, not a tree. */
    int text() {
        State s = home.twin();
        Matcher m = TOKEN.matcher(tape);
        int end = tape.length();
        String expects = "item";
        int items = 0;
        int option = -1;
        int at = 0;
        int fault = -1;
        while (fault < 0) {
            m.region(at, end);
            if (!m.lookingAt()) throw new IllegalStateException(tape);
            String token = m.group(1);
            at = m.end();
            boolean isNumber = !token.isEmpty() && Character.isDigit(token.charAt(0));
            int number = isNumber ? new BigInteger(token).min(BigInteger.valueOf(1000)).intValue() : -1;
            int mark = m.start(1);
            if (expects.equals("item") && KINDS.contains(token) && s.people.size() < 8) {
                s.people.add(made(KINDS.indexOf(token)));
                option = 0;
                expects = "options";
            } else if (expects.equals("item") && (token.equals("eggs") || token.equals("laid"))) {
                option = 3;
                expects = token;
            } else if (expects.equals("eggs") && in(number, 0, 999)) {
                s.eggs = number;
                expects = "options";
            } else if (expects.equals("laid") && in(number, 0, 99)) {
                s.laid = number;
                expects = "options";
            } else if (expects.equals("options") && OPTIONS.indexOf(token) >= option) {
                option = OPTIONS.indexOf(token) + 1;
                expects = token;
            } else if (OPTIONS.contains(expects) && in(number, 0, expects.equals("needs") ? 20 : 99)) {
                Cook last = s.people.get(s.people.size() - 1);
                if (expects.equals("needs")) last.need = number;
                if (expects.equals("reason")) last.reason = number;
                if (expects.equals("watched")) last.watched = number;
                expects = "options";
            } else if (expects.equals("options") && token.equals(";")) {
                items++;
                expects = "item";
            } else if (expects.equals("options") && token.isEmpty()) {
                tape = "";
                home = s;
                return items + 1;
            } else {
                fault = token.isEmpty() ? end : mark;
            }
        }
        tape = "";
        return -1 - fault;
    }

    int sheet(int s, int b, int n) {
        if (!in(s, 0, 3) || b != 0 && b != 8 && b != 16 && b != 64) return tell(BEYOND);
        if (n < 0) return tell(SIZE);
        if (n > 40) return tell(BEYOND);
        sheets[s] = b == 0 ? null : new long[n];
        bits[s] = b;
        return b == 0 ? 0 : n;
    }

    private long cut(int s, long v) {
        return v << 64 - bits[s] >> 64 - bits[s];
    }

    long write(int s, int i, long v) {
        if (!in(s, 0, 3)) return tell(BEYOND);
        if (sheets[s] == null) return tell(MISSING);
        if (!in(i, 0, sheets[s].length - 1)) return tell(BEYOND);
        long was = sheets[s][i];
        sheets[s][i] = cut(s, v);
        return was;
    }

    int copy(int s, int from, int t, int to, int n) {
        if (!in(s, 0, 3) || !in(t, 0, 3)) return tell(BEYOND);
        if (sheets[s] == null || sheets[t] == null) return tell(MISSING);
        if (bits[s] != bits[t]) return tell(KIND);
        if (from < 0 || to < 0 || n < 0) return tell(BEYOND);
        if ((long) from + n > sheets[s].length || (long) to + n > sheets[t].length) return tell(BEYOND);
        long[] were = sheets[s].clone();
        for (int i = 0; i < n; i++) sheets[t][to + i] = were[from + i];
        return n;
    }

    int lays(int s) {
        if (!in(s, 0, 3)) return tell(BEYOND);
        if (sheets[s] == null) return tell(MISSING);
        int came = 0;
        for (int i = 0; i < sheets[s].length; i++) {
            if (!one(i) || !in(sheets[s][i], 0, 99)) continue;
            home.people.get(i).reason = (int) sheets[s][i];
            came++;
        }
        return came;
    }

    int book(int s) {
        if (!in(s, 0, 3)) return tell(BEYOND);
        if (sheets[s] == null) return tell(MISSING);
        for (int i = 0; i < sheets[s].length; i++) sheets[s][i] = cut(s, tried(i).eggs);
        return sheets[s].length;
    }

    int read(int s, int person) {
        if (!in(s, 0, 3)) return tell(BEYOND);
        if (sheets[s] == null) return tell(MISSING);
        if (!one(person)) return tell(BEYOND);
        int pairs = 0;
        for (int k = 0; k < 6; k++) {
            for (int need = 0; need <= 20; need++) {
                State tried = home.twin();
                tried.people.set(person, tried.people.get(person).as(k));
                tried.people.get(person).need = need;
                boolean isSo = true;
                for (long number : sheets[s]) {
                    isSo &= number == tried.eggs;
                    tried.day();
                }
                if (isSo) pairs++;
            }
        }
        return pairs;
    }

    int image() {
        kept = home.twin();
        return 1;
    }

    int undo() {
        if (kept == null) return tell(NONE);
        home = kept.twin();
        return home.people.size();
    }

    int tear() {
        int was = kept == null ? 0 : 1;
        kept = null;
        return was;
    }

    int count(int what) {
        int watched = 0;
        int reasons = 0;
        for (Cook o : home.people) {
            if (o.watched > 0) watched++;
            reasons += o.reason;
        }
        if (!in(what, 0, 3)) return tell(BEYOND);
        return new int[] {home.people.size(), tape.length(), watched, reasons}[what];
    }

    int status(int which) {
        if (!in(which, -1, 6)) return tell(BEYOND);
        if (which >= 0) return told[which];
        int sum = 0;
        for (int one : told) sum += one;
        return sum;
    }
}
