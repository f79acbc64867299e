import java.util.function.Supplier;

/** Calls just inside and just outside of what may be, each on an object that is made anew, the same each time. */
final class Edge {
    interface Call {
        long on(EggReasons x);
    }

    interface CallWith {
        long on(EggReasons x, int v);
    }

    private static final int FINDINGS = 7;
    private static final int SHEETS = 4;

    private final String promise;
    private final Supplier<EggReasons> made;

    Edge(String promise, Supplier<EggReasons> made) {
        this.promise = promise;
        this.made = made;
    }

    /** A house of three with something of all there can be, and findings of several kinds told before. */
    static EggReasons full() {
        EggReasons x = Check.houseOf(0, 4, 5);
        x.undo();
        x.set(0, 1, 4);
        x.set(1, 2, 7);
        x.set(1, 4, 9);
        x.set(2, 3, 4);
        x.house(2, 33);
        x.days(2);
        x.image();
        x.house(1, 17);
        x.days(1);
        row(x, 0, 16, 300, -1, 8, 0);
        row(x, 1, 8, 99, 100, -3);
        row(x, 2, 64, Long.MIN_VALUE, 4294967301L);
        Check.feed(x, "boy needs 7;laid 8");
        for (int i = 0; i < 2; i++) x.now(9);
        for (int i = 0; i < 3; i++) x.as(0, 5);
        for (int i = 0; i < 4; i++) x.breaks(2, 1);
        for (int i = 0; i < 5; i++) x.lays(3);
        for (int i = 0; i < 6; i++) x.sheet(0, 8, -1);
        return x;
    }

    /** The house of three, and five more. */
    static EggReasons fullOfEight() {
        EggReasons x = full();
        for (int kind = 1; kind <= 5; kind++) x.person(kind);
        return x;
    }

    /** An object with a sheet of these numbers. */
    static void row(EggReasons x, int s, int bits, long... numbers) {
        x.sheet(s, bits, numbers.length);
        for (int i = 0; i < numbers.length; i++) x.write(s, i, numbers[i]);
    }

    /** An object on which so many days went, with nobody there. */
    static EggReasons after(int days) {
        EggReasons x = new EggReasons();
        for (int left = days; left > 0; left -= 100) x.days(Math.min(left, 100));
        return x;
    }

    /** Just inside: the answer that is due, and no finding. The object is as the call left it. */
    EggReasons done(String what, Call call, long want) {
        EggReasons x = made.get();
        Check.due(promise + ": " + what, call.on(x), want);
        told(what, x, made.get(), -1);
        return x;
    }

    /** Just inside, of what only asks: nothing changes. */
    void asked(String what, Call call, long want) {
        unchanged(what, done(what, call, want), made.get());
    }

    /** Just outside: the finding that is due, by which nothing changes but what status() tells of it. */
    void refused(String what, int finding, Call call) {
        EggReasons x = made.get();
        Check.due(promise + ": " + what, call.on(x), finding);
        told(what, x, made.get(), Check.BEYOND - finding);
        unchanged(what, x, made.get());
    }

    /** Just outside of least to greatest, and as far outside as can be. */
    void outside(String what, int least, int greatest, CallWith call) {
        int[] values = {least - 1, greatest + 1, Integer.MIN_VALUE, Integer.MAX_VALUE};
        for (int v : values) refused(what + " " + v, Check.BEYOND, x -> call.on(x, v));
    }

    /** The finding, 0 to 6, is counted once more than by the twin, all others as often; -1: none is. */
    private void told(String what, EggReasons x, EggReasons twin, int finding) {
        String counted = promise + ": status after " + what + ", of ";
        for (int which = 0; which < FINDINGS; which++) {
            Check.due(counted + which, x.status(which), twin.status(which) + (which == finding ? 1 : 0));
        }
        Check.due(counted + "all", x.status(-1), twin.status(-1) + (finding < 0 ? 0 : 1));
    }

    private void unchanged(String what, EggReasons x, EggReasons twin) {
        Check.same(promise + ": unchanged by " + what, all(x), all(twin));
    }

    /** All that an object can tell but for status(). What it tells is used up by that. */
    private static String all(EggReasons x) {
        StringBuilder all = new StringBuilder(Check.told(x));
        for (int what = 0; what <= 3; what++) all.append(" count ").append(x.count(what));
        sheets(x, all);
        all.append(" text ").append(x.text()).append(' ').append(Check.told(x));
        all.append(" image ").append(x.undo()).append(' ').append(Check.told(x));
        return all.append(" torn ").append(x.tear()).toString();
    }

    /** Each sheet's numbers up to the first finding, and what of a long number stays there. */
    private static void sheets(EggReasons x, StringBuilder all) {
        for (int pair = 0; pair < SHEETS * SHEETS; pair++) {
            all.append(' ').append(x.copy(pair / SHEETS, 0, pair % SHEETS, 0, 0));
        }
        for (int s = 0; s < SHEETS; s++) {
            all.append(" sheet ").append(s);
            for (int i = 0; i <= 40; i++) {
                long was = x.write(s, i, 0x5a5a5a5a5a5a5aL);
                all.append(' ').append(was);
                if (was == Check.MISSING || was == Check.BEYOND) break;
                all.append('/').append(x.write(s, i, 0));
            }
        }
    }
}
