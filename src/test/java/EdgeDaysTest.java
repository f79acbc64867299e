/** Promises 12 to 17, and how a day goes, at the edges of what may be. */
public final class EdgeDaysTest {
    public static void main(String[] args) {
        eggsHeld();
        noMoreThanThereAre();
        halfAndFourth();
        laidHeld();
        columnAndBrokeHeld();
        columnInTheDay();
        watchedDays();
        watchedForWhatItBroke();
        hungryDays();
        hungryHeld();
        days();
        lastDay();
        on();
        then();
        hunger();
        comes();
        watched();
        watchedLate();
        Check.end();
    }

    private static EggReasons cook(int eggs, int laid, int need) {
        EggReasons x = Check.houseOf(0);
        x.house(0, eggs);
        x.house(1, laid);
        x.set(0, 1, need);
        return x;
    }

    private static void eggsHeld() {
        int[][] rows = {{899, 99, 998}, {900, 99, 999}, {901, 99, 999}, {999, 99, 999}, {999, 0, 999}, {998, 1, 999}, {0, 0, 0}};
        for (int[] row : rows) {
            EggReasons x = cook(row[0], row[1], 0);
            Check.due("12: EGGS from " + row[0] + ", laid " + row[1], x.days(1), row[2]);
            Check.due("12: EGGS then", x.now(1), row[2]);
        }
        // What can't be kept is not there to be broken either.
        Check.due("12: of 999", cook(999, 99, 1).days(1), 998);
    }

    private static void noMoreThanThereAre() {
        int[][] rows = {{2, 0, 2, 0}, {3, 0, 3, 0}, {4, 1, 3, 0}, {0, 0, 0, 1}, {1, 0, 1, 0}};
        for (int[] row : rows) {
            EggReasons x = cook(row[0], 0, 3);
            Check.due("12: EGGS of " + row[0], x.days(1), row[1]);
            Check.due("12: BROKE of " + row[0], x.of(0, 4), row[2]);
            Check.due("12: HUNGRY of " + row[0], x.now(4), row[3]);
            Check.due("12: COLUMN of " + row[0], x.now(3), 5 * row[2]);
        }
    }

    /** Eight who break so many of 999 eggs in a day: rebels four at a time, and a cook for the rest. */
    private static EggReasons breaking(int broken) {
        EggReasons x = Check.houseOf(0, 2, 2, 2, 2, 2, 2, 2);
        x.house(0, 999);
        x.house(1, 50);
        x.house(2, 501);
        x.set(0, 1, broken % 4);
        int left = broken / 4;
        for (int person = 1; person < 8; person++) {
            int need = Math.min(20, left);
            x.set(person, 1, need);
            left -= need;
        }
        return x;
    }

    private static void halfAndFourth() {
        int[][] of999 = {{0, 51}, {248, 51}, {249, 51}, {250, 50}, {251, 50}, {498, 50}, {499, 50}, {500, 49}, {501, 49}};
        for (int[] row : of999) {
            EggReasons x = breaking(row[0]);
            Check.due("12: EGGS, " + row[0] + " of 999", x.days(1), 999 - row[0]);
            Check.due("12: LAID, " + row[0] + " of 999", x.now(2), row[1]);
        }
        int[][] few = {{0, 0, 0}, {1, 0, 1}, {1, 1, -1}, {2, 0, 1}, {2, 1, 0}, {2, 2, -1}, {3, 0, 1}, {3, 1, 0}, {3, 2, -1},
            {4, 0, 1}, {4, 1, 0}, {4, 2, 0}, {4, 3, -1}, {5, 1, 1}, {5, 2, 0}, {5, 3, -1}, {7, 1, 1}, {7, 2, 0}, {7, 3, 0},
            {7, 4, -1}, {8, 1, 1}, {8, 2, 0}, {8, 4, 0}, {8, 5, -1}, {9, 2, 1}, {9, 3, 0}, {9, 4, 0}, {9, 5, -1}};
        for (int[] row : few) {
            EggReasons x = cook(Math.max(0, row[0] - 1), Math.min(1, row[0]), row[1]);
            Check.due("12: EGGS, " + row[1] + " of " + row[0], x.days(1), row[0] - row[1]);
            Check.due("12: LAID, " + row[1] + " of " + row[0], x.now(2), Math.min(1, row[0]) + row[2]);
        }
    }

    private static void laidHeld() {
        int[][] more = {{97, 98}, {98, 99}, {99, 99}, {0, 1}};
        for (int[] row : more) {
            EggReasons x = cook(100, row[0], 0);
            x.days(1);
            Check.due("12: LAID up from " + row[0], x.now(2), row[1]);
        }
        int[][] less = {{2, 1}, {1, 0}, {0, 0}};
        for (int[] row : less) {
            EggReasons x = cook(3, row[0], 5);
            x.days(1);
            Check.due("12: LAID down from " + row[0], x.now(2), row[1]);
        }
    }

    private static void columnAndBrokeHeld() {
        int[][] columns = {{99999983, 99999998}, {99999984, 99999999}, {99999985, 99999999}, {99999999, 99999999}};
        for (int[] row : columns) {
            EggReasons x = cook(50, 0, 3);
            x.house(2, row[0]);
            x.days(1);
            Check.due("12: COLUMN from " + row[0], x.now(3), row[1]);
            Check.due("12: not watched for what didn't fit", x.of(0, 3), 0);
        }
        int[][] broke = {{99995, 99998}, {99996, 99999}, {99997, 99999}, {99999, 99999}};
        for (int[] row : broke) {
            EggReasons x = cook(50, 0, 3);
            x.set(0, 4, row[0]);
            Check.due("12: EGGS all the same", x.days(1), 47);
            Check.due("12: BROKE from " + row[0], x.of(0, 4), row[1]);
        }
    }

    /** What one wants goes by the COLUMN as those of lower numbers left it. */
    private static void columnInTheDay() {
        int[][] rows = {{484, 3}, {485, 3}, {486, 12}, {500, 12}, {501, 12}};
        for (int[] row : rows) {
            EggReasons x = Check.houseOf(0, 2);
            x.house(2, row[0]);
            x.days(1);
            Check.due("12: a rebel behind a cook, from " + row[0], x.of(1, 4), row[1]);
        }
        int[][] first = {{500, 3}, {501, 12}};
        for (int[] row : first) {
            EggReasons x = Check.houseOf(2, 0);
            x.house(2, row[0]);
            x.days(1);
            Check.due("12: a rebel ahead of a cook, from " + row[0], x.of(0, 4), row[1]);
        }
    }

    private static void watchedDays() {
        int[][] rows = {{0, 0, 3}, {1, 0, 0}, {2, 1, 0}, {98, 97, 0}, {99, 98, 0}};
        for (int[] row : rows) {
            EggReasons x = cook(50, 0, 3);
            x.set(0, 3, row[0]);
            x.days(1);
            Check.due("12: WATCHED from " + row[0], x.of(0, 3), row[1]);
            Check.due("12: BROKE, watched for " + row[0], x.of(0, 4), row[2]);
        }
        for (int days = 1; days <= 99; days += 49) {
            EggReasons x = cook(50, 0, 3);
            x.set(0, 3, days);
            x.days(days);
            Check.due("12: not let in for " + days, x.of(0, 4), 0);
            x.days(1);
            Check.due("12: let in after " + days, x.of(0, 4), 3);
        }
    }

    private static void watchedForWhatItBroke() {
        int[][] rows = {{0, 3, 0, 50, 2}, {0, 3, 1, 50, 0}, {0, 3, 0, 0, 0}, {0, 0, 0, 50, 0}, {0, 3, 0, 1, 2}, {1, 3, 0, 50, 0},
            {2, 20, 0, 50, 0}, {3, 20, 0, 50, 0}, {4, 4, 0, 50, 0}, {4, 5, 0, 50, 1}, {4, 20, 0, 5, 0}, {4, 20, 0, 6, 1},
            {5, 18, 0, 50, 0}, {5, 19, 0, 50, 1}, {5, 19, 0, 30, 0}, {5, 19, 0, 31, 1}};
        for (int[] row : rows) {
            EggReasons x = Check.houseOf(row[0]);
            x.set(0, 1, row[1]);
            x.set(0, 2, row[2]);
            x.house(0, row[3]);
            x.house(1, 0);
            x.days(1);
            String what = "12: kind " + row[0] + ", need " + row[1] + ", reason " + row[2] + ", eggs " + row[3];
            Check.due(what, x.of(0, 3), row[4]);
        }
    }

    private static void hungryDays() {
        int[][] rows = {{0, 3, 0, 1}, {1, 3, 0, 0}, {0, 0, 0, 0}, {0, 3, 1, 0}, {0, 1, 0, 1}};
        for (int[] row : rows) {
            EggReasons x = cook(row[0], 0, row[1]);
            x.set(0, 3, row[2]);
            x.days(1);
            Check.due("12: eggs " + row[0] + ", need " + row[1] + ", watched " + row[2], x.now(4), row[3]);
        }
        int[][] two = {{2, 1}, {3, 1}, {4, 0}};
        for (int[] row : two) {
            EggReasons x = Check.houseOf(0, 0, 0);
            x.set(2, 1, 0);
            x.house(0, row[0]);
            x.house(1, 0);
            x.days(1);
            Check.due("12: two, eggs " + row[0], x.now(4), row[1]);
        }
        EggReasons all = Check.houseOf(0, 1, 2, 3, 4, 5, 0, 0);
        all.house(0, 0);
        all.house(1, 0);
        all.days(1);
        Check.due("12: eight who have none, one day", all.now(4), 1);
    }

    /** A cook who finds no egg on any day. */
    private static EggReasons hungryFor(int days) {
        EggReasons x = Check.houseOf(0);
        x.house(0, 0);
        x.house(1, 0);
        for (int left = days; left > 0; left -= 100) x.days(Math.min(left, 100));
        return x;
    }

    private static void hungryHeld() {
        Edge last = new Edge("13", () -> hungryFor(9998));
        last.asked("HUNGRY 9998", x -> x.now(4), 9998);
        last.asked("one more", x -> x.on(1, 3), 9999);
        last.asked("held", x -> x.on(2, 3), 9999);
        last.asked("still held", x -> x.on(100, 3), 9999);
        last.asked("once more there is more", x -> x.hunger(), 1);
        Check.due("12: the most", last.done("one day", x -> x.days(1), 0).now(4), 9999);
        Edge most = new Edge("15", () -> hungryFor(9999));
        most.asked("HUNGRY 9999", x -> x.now(4), 9999);
        most.refused("never more than the most", Check.NONE, x -> x.hunger());
        most.asked("none is needed for that", x -> x.enough(60), 0);
        most.asked("nor anyone kept out", x -> x.keep(20), 0);
    }

    private static void days() {
        Edge e = new Edge("12", Edge::full);
        int one = Edge.full().on(1, 0);
        int hundred = Edge.full().on(100, 0);
        Check.due("12: one more", e.done("1 day", x -> x.days(1), one).now(0), 4);
        Check.due("12: 100 more", e.done("100 days", x -> x.days(100), hundred).now(0), 103);
        e.outside("n", 1, 100, EggReasons::days);
    }

    private static void lastDay() {
        int[][] rows = {{9999, 1}, {9998, 2}, {9989, 11}, {9900, 100}, {9901, 99}};
        for (int[] row : rows) {
            Edge e = new Edge("12", () -> Edge.after(row[0]));
            e.refused(row[1] + " from " + row[0], Check.STATE, x -> x.days(row[1]));
            if (row[1] > 1) Check.due("12: the last", e.done("to the last", x -> x.days(row[1] - 1), 999).now(0), 9999);
            e.outside("n ahead of STATE", 1, 100, EggReasons::days);
        }
        Edge before = new Edge("12", () -> Edge.after(9899));
        Check.due("12: the last", before.done("100 to the last", x -> x.days(100), 999).now(0), 9999);
        // ON asks for no STATE.
        new Edge("13", () -> Edge.after(9999)).asked("on from the last DAY", x -> x.on(100, 0), 999);
    }

    private static void on() {
        Edge e = new Edge("13", Edge::full);
        EggReasons like = Edge.full();
        int[] now = new int[4];
        for (int i = 0; i < 4; i++) now[i] = like.now(i + 1);
        like.days(100);
        for (int i = 0; i < 4; i++) {
            int what = i;
            e.asked("0 days, what " + what, x -> x.on(0, what), now[what]);
            e.asked("100 days, what " + what, x -> x.on(100, what), like.now(what + 1));
            e.outside("n, what " + what, 0, 100, (x, n) -> x.on(n, what));
        }
        e.outside("what", 0, 3, (x, what) -> x.on(0, what));
        e.outside("what on 100 days", 0, 3, (x, what) -> x.on(100, what));
    }

    private static void then() {
        Edge e = new Edge("14", Edge::full);
        EggReasons like = Edge.full();
        like.days(100);
        for (int p = 0; p < 3; p++) {
            int person = p;
            e.asked("0 days, watched", x -> x.then(person, 0, 0), Edge.full().of(person, 3));
            e.asked("0 days, broke", x -> x.then(person, 0, 1), Edge.full().of(person, 4));
            e.asked("100 days, watched", x -> x.then(person, 100, 0), like.of(person, 3));
            e.asked("100 days, broke", x -> x.then(person, 100, 1), like.of(person, 4));
        }
        e.outside("n", 0, 100, (x, n) -> x.then(1, n, 0));
        e.outside("n, broke", 0, 100, (x, n) -> x.then(1, n, 1));
        e.outside("what", 0, 1, (x, what) -> x.then(1, 1, what));
        e.outside("person", 0, 2, (x, person) -> x.then(person, 1, 0));
        Edge long99 = new Edge("14", () -> cookWatched(99));
        long99.asked("watched for the last day", x -> x.then(0, 98, 0), 1);
        long99.asked("watched no more", x -> x.then(0, 99, 0), 0);
        long99.asked("broke none yet", x -> x.then(0, 99, 1), 0);
        long99.asked("broke some", x -> x.then(0, 100, 1), 3);
    }

    private static EggReasons cookWatched(int days) {
        EggReasons x = cook(50, 0, 3);
        x.set(0, 3, days);
        return x;
    }

    /** A boy without a need, who wants one on odd days alone, with none there, watched for 99 days. */
    private static EggReasons hungryLate(int day) {
        EggReasons x = Edge.after(day);
        x.house(0, 0);
        x.house(1, 0);
        x.person(1);
        x.set(0, 1, 0);
        x.set(0, 3, 99);
        return x;
    }

    private static void hunger() {
        new Edge("15", () -> hungryLate(0)).asked("on the 100th", x -> x.hunger(), 100);
        Edge late = new Edge("15", () -> hungryLate(1));
        late.refused("not before the 101st", Check.NONE, x -> x.hunger());
        Check.due("15: it is the 101st", late.done("a day", x -> x.days(1), 0).hunger(), 100);
        new Edge("15", () -> cook(0, 0, 1)).asked("on the first", x -> x.hunger(), 1);
        new Edge("15", () -> cook(1, 0, 1)).asked("on the second", x -> x.hunger(), 2);
        new Edge("15", EggReasons::new).refused("nobody is there", Check.NONE, x -> x.hunger());
    }

    private static EggReasons aColumn(int column) {
        EggReasons x = cook(50, 0, 1);
        x.set(0, 2, 1);
        x.house(2, column);
        return x;
    }

    private static void comes() {
        Edge e = new Edge("16", () -> aColumn(0));
        e.asked("0", x -> x.comes(0), 0);
        e.asked("1", x -> x.comes(1), 1);
        e.asked("on the 99th", x -> x.comes(99), 99);
        e.asked("on the 100th", x -> x.comes(100), 100);
        e.refused("on the 101st", Check.NONE, x -> x.comes(101));
        e.refused("the most", Check.NONE, x -> x.comes(99999999));
        e.outside("v", 0, 99999999, EggReasons::comes);
        new Edge("16", Edge::full).outside("v", 0, 99999999, EggReasons::comes);
        new Edge("16", () -> aColumn(99999998)).asked("the most on the first", x -> x.comes(99999999), 1);
        Edge most = new Edge("16", () -> aColumn(99999999));
        most.asked("the most now", x -> x.comes(99999999), 0);
        most.outside("v", 0, 99999999, EggReasons::comes);
        new Edge("16", () -> aColumn(99999899)).asked("the most on the 100th", x -> x.comes(99999999), 100);
        new Edge("16", () -> aColumn(99999898)).refused("the most on the 101st", Check.NONE, x -> x.comes(99999999));
        new Edge("16", EggReasons::new).refused("nobody is there", Check.NONE, x -> x.comes(1));
    }

    private static void watched() {
        Edge e = new Edge("17", Edge::full);
        e.asked("now", x -> x.watched(2), 0);
        e.outside("person", 0, 2, EggReasons::watched);
        new Edge("17", EggReasons::new).refused("nobody is there", Check.BEYOND, x -> x.watched(0));
        Edge eight = new Edge("17", Edge::fullOfEight);
        eight.refused("the last of eight, a leader that breaks few", Check.NONE, x -> x.watched(7));
        eight.outside("person of eight", 0, 7, EggReasons::watched);
        new Edge("17", () -> cookWatched(1)).asked("for a day", x -> x.watched(0), 0);
        new Edge("17", () -> cookWatched(0)).refused("never", Check.NONE, x -> x.watched(0));
        new Edge("17", EdgeDaysTest::withoutReason).asked("on the first", x -> x.watched(0), 1);
    }

    private static EggReasons withoutReason() {
        EggReasons x = cook(50, 0, 1);
        x.set(0, 2, 0);
        return x;
    }

    /**
     * Three pupils leave so few that one of three cooks in turn breaks them all, and the last pupil finds no more than
     * five, until a leader, let in at last on a tenth day, takes them from one cook and so brings the three out of turn.
     */
    private static EggReasons watchedLast() {
        int[] kinds = {4, 4, 4, 5, 0, 0, 0, 4};
        int[] needs = {14, 14, 14, 0, 5, 5, 5, 9};
        int[] watched = {0, 0, 0, 85, 1, 2, 0, 0};
        EggReasons x = Edge.after(6);
        x.house(0, 19);
        x.house(1, 31);
        for (int person = 0; person < 8; person++) {
            x.person(kinds[person]);
            x.set(person, 1, needs[person]);
            x.set(person, 2, kinds[person] == 0 ? 0 : 5);
            x.set(person, 3, watched[person]);
        }
        return x;
    }

    private static EggReasons watchedLast(int days) {
        EggReasons x = watchedLast();
        x.days(days);
        return x;
    }

    private static void watchedLate() {
        new Edge("17", EdgeDaysTest::watchedLast).refused("on the 101st", Check.NONE, x -> x.watched(7));
        new Edge("17", () -> watchedLast(1)).asked("on the 100th", x -> x.watched(7), 100);
        new Edge("17", () -> watchedLast(2)).asked("on the 99th", x -> x.watched(7), 99);
        EggReasons x = watchedLast();
        for (int day = 1; day <= 101; day++) {
            x.days(1);
            Check.due("17: told day by day, " + day, x.of(7, 3), day == 101 ? 1 : 0);
        }
    }
}
