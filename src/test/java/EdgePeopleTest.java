/** Promises 1 to 11 at the edges of what may be. */
public final class EdgePeopleTest {
    public static void main(String[] args) {
        newObject();
        findings();
        house();
        now();
        person();
        of();
        says();
        saysOfKinds();
        set();
        turn();
        as();
        swap();
        breaks();
        breaksState();
        breaksHeld();
        wants();
        Check.end();
    }

    private static void newObject() {
        Edge e = new Edge("1", EggReasons::new);
        Check.same("1: told", Check.told(new EggReasons()), "0 50 12 0 0 0 0 people 0");
        e.refused("nobody is there", Check.BEYOND, x -> x.of(0, 0));
        e.refused("nobody is there to be turned", Check.BEYOND, x -> x.turn(0, 0));
        e.asked("the tape is empty", x -> x.wipe(), 0);
        e.asked("a text of nothing ends too early", x -> x.text(), -1);
        e.refused("no image is kept", Check.NONE, x -> x.undo());
        e.asked("no image to tear", x -> x.tear(), 0);
        for (int s = 0; s < 4; s++) {
            int sheet = s;
            e.refused("sheet " + s, Check.MISSING, x -> x.write(sheet, 0, 0));
        }
        for (int which = -1; which <= 6; which++) Check.due("1: status", new EggReasons().status(which), 0);
    }

    /** The number of each finding, as the section ahead of the promises tells it. */
    private static void findings() {
        Edge e = new Edge("terms", Edge::full);
        e.refused("BEYOND", -1000000001, x -> x.now(7));
        new Edge("terms", Edge::fullOfEight).refused("FULL", -1000000002, x -> x.person(0));
        e.refused("KIND", -1000000003, x -> x.as(0, 1));
        new Edge("terms", EggReasons::new).refused("NONE", -1000000004, x -> x.most(0));
        e.refused("STATE", -1000000005, x -> x.breaks(2, 1));
        e.refused("MISSING", -1000000006, x -> x.book(3));
        e.refused("SIZE", -1000000007, x -> x.sheet(0, 8, -1));
        e.refused("BEYOND in a long", -1000000001, x -> x.write(4, 0, 0L));
        e.refused("MISSING in a long", -1000000006, x -> x.write(3, 0, 0L));
    }

    private static void house() {
        Edge e = new Edge("2", Edge::full);
        int[] most = {999, 99, 99999999};
        for (int i = 0; i < 3; i++) {
            int what = i;
            int was = Edge.full().now(what + 1);
            Check.due("2: the least", e.done("0 of " + what, x -> x.house(what, 0), was).now(what + 1), 0);
            Check.due("2: the most", e.done("the most of " + what, x -> x.house(what, most[what]), was).now(what + 1), most[what]);
            e.outside("v of " + what, 0, most[what], (x, v) -> x.house(what, v));
        }
        e.outside("what", 0, 2, (x, what) -> x.house(what, 5));
        EggReasons x = new EggReasons();
        for (int what = 0; what < 3; what++) {
            x.house(what, most[what]);
            Check.due("2: what the most was", x.house(what, 1), most[what]);
        }
    }

    private static void now() {
        Edge e = new Edge("3", Edge::full);
        e.asked("DAY", x -> x.now(0), 3);
        e.asked("those that are watched", x -> x.now(5), 4);
        EggReasons like = Edge.full();
        e.asked("BROKE of all", x -> x.now(6), like.of(0, 4) + like.of(1, 4) + like.of(2, 4));
        e.outside("what", 0, 6, EggReasons::now);
        new Edge("3", () -> Edge.after(9999)).asked("the last DAY", x -> x.now(0), 9999);
        Edge none = new Edge("3", EggReasons::new);
        none.asked("the first DAY", x -> x.now(0), 0);
        none.asked("nobody is watched", x -> x.now(5), 0);
        none.asked("nobody broke any", x -> x.now(6), 0);
        Edge all = new Edge("3", EdgePeopleTest::eightAtTheMost);
        all.asked("all are watched", x -> x.now(5), 255);
        all.asked("all broke the most", x -> x.now(6), 8 * 99999);
    }

    private static EggReasons eightAtTheMost() {
        EggReasons x = Check.houseOf(0, 0, 0, 0, 0, 0, 0, 0);
        for (int person = 0; person < 8; person++) {
            x.set(person, 1, 20);
            x.set(person, 2, 99);
            x.set(person, 3, 99);
            x.set(person, 4, 99999);
        }
        return x;
    }

    private static void person() {
        Edge none = new Edge("4", EggReasons::new);
        Edge seven = new Edge("4", () -> Check.houseOf(5, 4, 3, 2, 1, 0, 5));
        Edge eight = new Edge("4", Edge::fullOfEight);
        Check.same("4: the first", Check.told(none.done("kind 0", x -> x.person(0), 0)), "0 50 12 0 0 0 0 people 1 | 0 3 5 0 0");
        Check.same("4: the first", Check.told(none.done("kind 5", x -> x.person(5), 0)), "0 50 12 0 0 0 0 people 1 | 5 3 5 0 0");
        Check.due("4: eight", seven.done("the eighth", x -> x.person(4), 7).count(0), 8);
        new Edge("4", Edge::full).outside("kind", 0, 5, EggReasons::person);
        for (int k = 0; k < 6; k++) {
            int kind = k;
            eight.refused("a ninth of kind " + kind, Check.FULL, x -> x.person(kind));
        }
        eight.outside("kind of a ninth", 0, 5, EggReasons::person);
    }

    private static void of() {
        Edge e = new Edge("5", Edge::full);
        e.asked("KIND of the first", x -> x.of(0, 0), 0);
        e.asked("KIND of the last", x -> x.of(2, 0), 5);
        e.asked("WANTS of the last", x -> x.of(2, 5), 3);
        e.outside("what", 0, 5, (x, what) -> x.of(0, what));
        e.outside("what of the last", 0, 5, (x, what) -> x.of(2, what));
        e.outside("person", 0, 2, (x, person) -> x.of(person, 0));
        Edge eight = new Edge("5", EdgePeopleTest::eightAtTheMost);
        int[] most = {0, 20, 99, 99, 99999, 20};
        for (int i = 0; i < 6; i++) {
            int what = i;
            eight.asked("the most, what " + what, x -> x.of(7, what), most[what]);
        }
        eight.outside("person of eight", 0, 7, (x, person) -> x.of(person, 0));
    }

    private static void says() {
        Edge e = new Edge("6", Edge::full);
        e.asked("0 eggs", x -> x.says(1, 0, 0), 0);
        e.asked("1 egg", x -> x.says(1, 0, 1), 9);
        e.asked("999 eggs", x -> x.says(1, 0, 999), 2005);
        e.asked("watched for 0 eggs", x -> x.says(1, 1, 0), 0);
        e.asked("watched for 999 eggs", x -> x.says(1, 1, 999), 1);
        e.outside("n", 0, 999, (x, n) -> x.says(1, 0, n));
        e.outside("n, watched", 0, 999, (x, n) -> x.says(1, 1, n));
        e.outside("what", 0, 1, (x, what) -> x.says(1, what, 1));
        e.outside("person", 0, 2, (x, person) -> x.says(person, 1, 1));
        e.asked("the last one", x -> x.says(2, 0, 1), 12);
        new Edge("6", EdgePeopleTest::eightAtTheMost).asked("the most of a cook", x -> x.says(7, 0, 999), 98901);
    }

    /** What n eggs enter and for how many days one is watched, by kind, where v meets n and n meets 5 and 30. */
    private static void saysOfKinds() {
        int[][] without = {{0, 2}, {2, 0}, {1, 0}, {0, 0}, {2, 0}, {2, 0}};
        int[][] with = {{1, 0}, {2, 0}, {2, 0}, {0, 0}, {3, 0}, {4, 0}};
        for (int k = 0; k < 6; k++) {
            int kind = k;
            Edge none = new Edge("6", () -> of(kind, 0));
            Edge one = new Edge("6", () -> of(kind, 1));
            for (int i = 0; i < 2; i++) {
                int what = i;
                none.asked("0 eggs, REASON 0, of kind " + kind, x -> x.says(0, what, 0), 0);
                one.asked("0 eggs, REASON 1, of kind " + kind, x -> x.says(0, what, 0), 0);
                none.asked("1 egg, REASON 0, of kind " + kind, x -> x.says(0, what, 1), without[kind][what]);
                one.asked("1 egg, REASON 1, of kind " + kind, x -> x.says(0, what, 1), with[kind][what]);
            }
            int[] edges = {5, 6, 30, 31};
            for (int n : edges) {
                int watched = kind == 0 ? 2 : kind == 4 && n > 5 || kind == 5 && n > 30 ? 1 : 0;
                none.asked(n + " eggs, REASON 0, of kind " + kind, x -> x.says(0, 1, n), watched);
                one.asked(n + " eggs, REASON 1, of kind " + kind, x -> x.says(0, 1, n), kind == 0 ? 0 : watched);
            }
        }
    }

    private static EggReasons of(int kind, int reason) {
        EggReasons x = Check.houseOf(kind);
        x.set(0, 2, reason);
        return x;
    }

    private static void set() {
        Edge e = new Edge("7", Edge::full);
        int[] most = {0, 20, 99, 99, 99999};
        for (int i = 1; i <= 4; i++) {
            int what = i;
            for (int p = 0; p <= 2; p += 2) {
                int person = p;
                int was = Edge.full().of(person, what);
                Check.due("7: the least", e.done("0 of " + what, x -> x.set(person, what, 0), was).of(person, what), 0);
                EggReasons x = e.done("the most of " + what, y -> y.set(person, what, most[what]), was);
                Check.due("7: the most", x.of(person, what), most[what]);
                Check.due("7: what the most was", x.set(person, what, 0), most[what]);
            }
            e.outside("v of " + what, 0, most[what], (x, v) -> x.set(1, what, v));
            e.outside("person, what " + what, 0, 2, (x, person) -> x.set(person, what, 0));
        }
        e.outside("what", 1, 4, (x, what) -> x.set(1, what, 0));
        new Edge("7", EggReasons::new).refused("nobody is there", Check.BEYOND, x -> x.set(0, 1, 0));
        new Edge("7", Edge::fullOfEight).outside("person of eight", 0, 7, (x, person) -> x.set(person, 1, 0));
    }

    private static void turn() {
        Edge e = new Edge("8", Edge::full);
        Check.due("8: a leader", e.done("to the last kind", x -> x.turn(0, 5), 0).of(0, 0), 5);
        Check.due("8: a cook", e.done("to the first kind", x -> x.turn(2, 0), 5).of(2, 0), 0);
        e.asked("to the kind that it is", x -> x.turn(1, 4), 4);
        e.outside("kind", 0, 5, (x, kind) -> x.turn(1, kind));
        e.outside("person", 0, 2, (x, person) -> x.turn(person, 1));
        new Edge("8", Edge::fullOfEight).outside("person of eight", 0, 7, (x, person) -> x.turn(person, 1));
    }

    private static void as() {
        Edge e = new Edge("9", Edge::full);
        e.asked("a cook as a cook", x -> x.as(0, 0), 5);
        e.asked("a pupil as itself", x -> x.as(1, 4), 7);
        e.asked("a pupil as a boy", x -> x.as(1, 1), 7);
        e.asked("a pupil as a cook", x -> x.as(1, 0), 7);
        e.asked("a leader as a cook", x -> x.as(2, 0), 5);
        e.asked("a leader as itself", x -> x.as(2, 5), 5);
        e.asked("a leader as a rebel", x -> x.as(2, 2), 5);
        e.refused("a cook as a boy", Check.KIND, x -> x.as(0, 1));
        e.refused("a cook as a leader", Check.KIND, x -> x.as(0, 5));
        e.refused("a pupil as a rebel", Check.KIND, x -> x.as(1, 2));
        e.refused("a pupil as a poacher", Check.KIND, x -> x.as(1, 3));
        e.refused("a pupil as a leader", Check.KIND, x -> x.as(1, 5));
        e.refused("a leader as a boy", Check.KIND, x -> x.as(2, 1));
        e.refused("a leader as a poacher", Check.KIND, x -> x.as(2, 3));
        e.refused("a leader as a pupil", Check.KIND, x -> x.as(2, 4));
        e.outside("kind", 0, 5, (x, kind) -> x.as(1, kind));
        e.outside("person", 0, 2, (x, person) -> x.as(person, 0));
        e.outside("person, ahead of KIND", 0, 2, (x, person) -> x.as(person, 3));
        Edge boy = new Edge("9", () -> Check.houseOf(1, 2, 3));
        boy.refused("a boy as one below it", Check.KIND, x -> x.as(0, 4));
        boy.refused("a rebel as one below it", Check.KIND, x -> x.as(1, 5));
        boy.refused("a poacher as one beside it", Check.KIND, x -> x.as(2, 1));
        boy.asked("a boy as a cook", x -> x.as(0, 0), 5);
        boy.asked("a rebel as a cook", x -> x.as(1, 0), 5);
        boy.asked("a poacher as a cook", x -> x.as(2, 0), 5);
    }

    private static void swap() {
        Edge e = new Edge("10", Edge::full);
        EggReasons x = e.done("the first and the last", y -> y.swap(0, 2), 1);
        EggReasons was = Edge.full();
        for (int what = 0; what <= 4; what++) {
            Check.due("10: what " + what, x.of(0, what), was.of(2, what));
            Check.due("10: what " + what, x.of(2, what), was.of(0, what));
            Check.due("10: the other one", x.of(1, what), was.of(1, what));
        }
        for (int p = 0; p < 3; p++) {
            int person = p;
            e.refused("one and the same " + person, Check.BEYOND, y -> y.swap(person, person));
        }
        e.outside("person", 0, 2, (y, person) -> y.swap(person, 1));
        e.outside("other", 0, 2, (y, other) -> y.swap(1, other));
        e.outside("both", 0, 2, (y, one) -> y.swap(one, one));
        Edge eight = new Edge("10", Edge::fullOfEight);
        Check.due("10: the eighth", eight.done("with the eighth", y -> y.swap(0, 7), 1).of(0, 0), 5);
        eight.outside("other of eight", 0, 7, (y, other) -> y.swap(0, other));
    }

    private static void breaks() {
        Edge e = new Edge("11", EdgePeopleTest::manyEggs);
        Check.due("11: EGGS", e.done("1 egg", x -> x.breaks(0, 1), 5).now(1), 998);
        EggReasons x = e.done("99 eggs", y -> y.breaks(2, 99), 99 * 5 + 99);
        Check.due("11: EGGS", x.now(1), 900);
        Check.due("11: BROKE", x.of(2, 4), 99);
        e.outside("n", 1, 99, (y, n) -> y.breaks(0, n));
        e.outside("person", 0, 2, (y, person) -> y.breaks(person, 1));
        new Edge("11", EggReasons::new).refused("nobody is there", Check.BEYOND, y -> y.breaks(0, 1));
        Edge full = new Edge("11", Edge::full);
        full.outside("n of one that is watched", 1, 99, (y, n) -> y.breaks(2, n));
        full.outside("person", 0, 2, (y, person) -> y.breaks(person, 99));
    }

    private static EggReasons manyEggs() {
        EggReasons x = Check.houseOf(0, 1, 2);
        x.house(0, 999);
        return x;
    }

    private static EggReasons withEggs(int eggs, int watched) {
        EggReasons x = Edge.full();
        x.house(0, eggs);
        x.house(2, 0);
        x.set(0, 3, watched);
        return x;
    }

    private static void breaksState() {
        int[] counts = {1, 2, 50, 98, 99};
        for (int n : counts) {
            Edge just = new Edge("11", () -> withEggs(n, 0));
            Check.due("11: none left", just.done("all " + n, x -> x.breaks(0, n), 5 * n).now(1), 0);
            new Edge("11", () -> withEggs(n - 1, 0)).refused(n + " of one fewer", Check.STATE, x -> x.breaks(0, n));
        }
        new Edge("11", () -> withEggs(0, 0)).refused("none are there", Check.STATE, x -> x.breaks(0, 1));
        Edge watched = new Edge("11", () -> withEggs(999, 1));
        watched.refused("one that is watched for a day", Check.STATE, x -> x.breaks(0, 1));
        watched.outside("n, ahead of STATE", 1, 99, (x, n) -> x.breaks(0, n));
        new Edge("11", () -> withEggs(999, 99)).refused("one that is watched for 99 days", Check.STATE, x -> x.breaks(0, 99));
        Check.due("11: it is not watched now", withEggs(999, 0).breaks(0, 1), 5);
    }

    private static void breaksHeld() {
        int[][] columns = {{99999983, 99999998}, {99999984, 99999999}, {99999985, 99999999}, {99999999, 99999999}};
        for (int[] column : columns) {
            EggReasons x = manyEggs();
            x.house(2, column[0]);
            Check.due("11: COLUMN from " + column[0], x.breaks(0, 3), column[1]);
            Check.due("11: COLUMN then", x.now(3), column[1]);
            Check.due("11: not watched for what didn't fit", x.of(0, 3), 0);
        }
        int[][] rows = {{99995, 99998}, {99996, 99999}, {99997, 99999}, {99999, 99999}};
        for (int[] row : rows) {
            EggReasons x = manyEggs();
            x.set(0, 4, row[0]);
            x.breaks(0, 3);
            Check.due("11: BROKE from " + row[0], x.of(0, 4), row[1]);
            Check.due("11: EGGS all the same", x.now(1), 996);
        }
        int[][] watched = {{4, 5, 0}, {4, 6, 1}, {5, 30, 0}, {5, 31, 1}};
        for (int[] row : watched) {
            EggReasons x = Check.houseOf(row[0]);
            x.breaks(0, row[1]);
            Check.due("11: kind " + row[0] + " is watched for " + row[1], x.of(0, 3), row[2]);
        }
    }

    private static void wants() {
        int[] needs = {0, 1, 20};
        for (int need : needs) {
            int[] even = {need, need, need, need + 1, need + 1, need};
            int[] odd = {need, 1, need, need, 2, need};
            for (int kind = 0; kind < 6; kind++) {
                int twelve = kind == 5 ? 12 : 0;
                wants(kind, need, 0, 500, even[kind] + twelve);
                wants(kind, need, 1, 500, odd[kind]);
                wants(kind, need, 8, 500, even[kind]);
                wants(kind, need, 9, 500, odd[kind]);
                wants(kind, need, 10, 500, even[kind] + twelve);
                wants(kind, need, 11, 500, odd[kind]);
                boolean isRebel = kind == 2 || kind == 5;
                wants(kind, need, 0, 501, isRebel ? 4 * need + twelve : even[kind]);
                wants(kind, need, 9, 501, isRebel ? 4 * need : odd[kind]);
                wants(kind, need, 10, 99999999, isRebel ? 4 * need + twelve : even[kind]);
            }
        }
        wants(5, 3, 9990, 0, 15);
        wants(5, 3, 9999, 0, 3);
        wants(1, 3, 9998, 0, 3);
        wants(1, 3, 9999, 0, 1);
    }

    private static void wants(int kind, int need, int day, int column, int want) {
        EggReasons x = Edge.after(day);
        x.person(kind);
        x.set(0, 1, need);
        x.house(2, column);
        Check.due("5: kind " + kind + ", need " + need + ", day " + day + ", column " + column, x.of(0, 5), want);
    }
}
