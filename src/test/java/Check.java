/** Counts the answers that are due, and prints those that are not. */
final class Check {
    static final int BEYOND = -1000000001;
    static final int FULL = -1000000002;
    static final int KIND = -1000000003;
    static final int NONE = -1000000004;
    static final int STATE = -1000000005;
    static final int MISSING = -1000000006;
    static final int SIZE = -1000000007;

    private static int right = 0;
    private static int wrong = 0;

    private Check() {
    }

    static void due(String what, long got, long want) {
        if (got == want) {
            right++;
            return;
        }
        wrong++;
        System.out.println(what + ": answered " + got + ", due is " + want);
    }

    /** Feeds a text to the tape, byte by byte. */
    static void feed(EggReasons x, String text) {
        for (int i = 0; i < text.length(); i++) {
            due("feed of " + text, x.feed(text.charAt(i), 1), i + 1);
        }
    }

    /** A house with one person of each given kind. */
    static EggReasons houseOf(int... kinds) {
        EggReasons x = new EggReasons();
        for (int i = 0; i < kinds.length; i++) due("person(" + kinds[i] + ")", x.person(kinds[i]), i);
        return x;
    }

    /** All that section 1 tells but the tape, as a row. */
    static String told(EggReasons x) {
        StringBuilder all = new StringBuilder();
        for (int what = 0; what <= 6; what++) all.append(x.now(what)).append(' ');
        all.append("people ").append(x.count(0));
        for (int person = 0; person < x.count(0); person++) {
            all.append(" |");
            for (int what = 0; what <= 4; what++) all.append(' ').append(x.of(person, what));
        }
        return all.toString();
    }

    static void same(String what, String got, String want) {
        due(what + ": " + got + " for " + want, got.equals(want) ? 1 : 0, 1);
    }

    /** Prints what came of the tests, and ends with 1 if an answer was wrong. */
    static void end() {
        System.out.println(right + " right, " + wrong + " wrong");
        if (wrong != 0) System.exit(1);
    }
}
