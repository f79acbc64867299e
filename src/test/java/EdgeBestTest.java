/** Promises 18 to 24 at the edges of what may be. */
public final class EdgeBestTest {
    public static void main(String[] args) {
        turns();
        turnsOfEight();
        reason();
        reasonOfKinds();
        enough();
        kind();
        needs();
        keep();
        keepDays();
        most();
        Check.end();
    }

    /** Cooks of these REASONS who want three eggs each, and no hen that lays. */
    private static EggReasons cooks(int eggs, int column, int... reasons) {
        EggReasons x = new EggReasons();
        x.house(0, eggs);
        x.house(1, 0);
        x.house(2, column);
        for (int person = 0; person < reasons.length; person++) {
            x.person(0);
            x.set(person, 2, reasons[person]);
        }
        return x;
    }

    private static void turns() {
        Edge more = new Edge("18", () -> cooks(1, 0, 5, 6));
        more.asked("one more on 1 day", x -> x.turns(1), 1);
        more.asked("one more on 60 days", x -> x.turns(60), 1);
        more.outside("n", 1, 60, EggReasons::turns);
        Edge alike = new Edge("18", () -> cooks(1, 0, 6, 6));
        alike.refused("as many on 1 day", Check.NONE, x -> x.turns(1));
        alike.refused("as many on 60 days", Check.NONE, x -> x.turns(60));
        alike.outside("n ahead of NONE", 1, 60, EggReasons::turns);
        new Edge("18", () -> cooks(1, 0, 6, 5)).refused("fewer", Check.NONE, x -> x.turns(1));
        new Edge("18", () -> cooks(3, 0, 5)).refused("one alone", Check.NONE, x -> x.turns(60));
        Edge none = new Edge("18", EggReasons::new);
        none.refused("nobody is there", Check.NONE, x -> x.turns(1));
        none.outside("n ahead of nobody", 1, 60, EggReasons::turns);
        new Edge("18", Edge::full).outside("n", 1, 60, EggReasons::turns);
        new Edge("18", () -> cooks(3, 0, 5, 7, 7)).asked("of several the least", x -> x.turns(1), 1);
        new Edge("18", () -> cooks(3, 0, 5, 7, 8)).asked("the most, not the least", x -> x.turns(1), 2);
        // With eggs for two it is all one which of the two has his number changed.
        new Edge("18", () -> cooks(6, 0, 5, 5, 8)).asked("of several the least lesser one", x -> x.turns(1), 2);
        new Edge("18", () -> cooks(1, 99999993, 5, 6)).asked("to the most there can be", x -> x.turns(1), 1);
        new Edge("18", () -> cooks(1, 99999994, 5, 6)).refused("no more can be", Check.NONE, x -> x.turns(1));
    }

    /** Five who want none, one whose egg enters most and must come first, and two for what is left. */
    private static EggReasons lastTwoOfEight(int lastButOne, int last) {
        EggReasons x = cooks(3, 0, 5, 5, 5, 5, 5, 99, lastButOne, last);
        for (int person = 0; person < 6; person++) x.set(person, 1, person == 5 ? 1 : 0);
        return x;
    }

    private static void turnsOfEight() {
        new Edge("18", () -> lastTwoOfEight(5, 6)).asked("the last two", x -> x.turns(1), 67);
        new Edge("18", () -> lastTwoOfEight(6, 6)).refused("the last two alike", Check.NONE, x -> x.turns(1));
        new Edge("18", () -> lastTwoOfEight(5, 6)).asked("the last two, 60 days", x -> x.turns(60), 67);
        new Edge("18", () -> cooks(3, 0, 5, 5, 5, 5, 5, 5, 5, 6)).asked("the first and the last", x -> x.turns(1), 7);
    }

    private static void reason() {
        Edge e = new Edge("19", () -> cooks(3, 100, 5));
        e.asked("v 0", x -> x.reason(0, 1, 0), 0);
        e.asked("what there is", x -> x.reason(0, 1, 100), 0);
        e.asked("1 more", x -> x.reason(0, 1, 101), 1);
        e.asked("3 more", x -> x.reason(0, 1, 103), 1);
        e.asked("4 more", x -> x.reason(0, 1, 104), 2);
        e.asked("just with 98", x -> x.reason(0, 60, 394), 98);
        e.asked("not with 98", x -> x.reason(0, 60, 395), 99);
        e.asked("just with 99", x -> x.reason(0, 60, 397), 99);
        e.refused("not with 99", Check.NONE, x -> x.reason(0, 60, 398));
        e.refused("the most", Check.NONE, x -> x.reason(0, 60, 99999999));
        Edge full = new Edge("19", Edge::full);
        full.outside("n", 1, 60, (x, n) -> x.reason(1, n, 0));
        full.outside("v", 0, 99999999, (x, v) -> x.reason(1, 60, v));
        full.outside("person", 0, 2, (x, person) -> x.reason(person, 60, 0));
        full.outside("person ahead of NONE", 0, 2, (x, person) -> x.reason(person, 1, 99999999));
        full.asked("the first, 1 day", x -> x.reason(0, 1, 0), 0);
        full.asked("the last, 60 days", x -> x.reason(2, 60, 0), 0);
        new Edge("19", EggReasons::new).refused("nobody is there", Check.BEYOND, x -> x.reason(0, 1, 0));
        new Edge("19", () -> cooks(3, 99999702, 0)).asked("to the most there can be", x -> x.reason(0, 1, 99999999), 99);
        new Edge("19", () -> cooks(3, 99999701, 99)).refused("one short of it", Check.NONE, x -> x.reason(0, 1, 99999999));
    }

    private static void reasonOfKinds() {
        EggReasons[] made = new EggReasons[6];
        for (int kind = 0; kind < 6; kind++) {
            made[kind] = Check.houseOf(kind);
            made[kind].house(0, 3);
            made[kind].house(1, 0);
        }
        // Three eggs at most: 3r, 6, 3r + 3, nothing, 6 + r, twice 3r + 3.
        int[] least = {0, 6, 3, 0, 6, 6};
        int[] most = {297, 6, 300, 0, 105, 600};
        for (int kind = 0; kind < 6; kind++) {
            Check.due("19: without a reason, kind " + kind, made[kind].reason(0, 1, least[kind]), 0);
            boolean isOfUse = most[kind] > least[kind];
            Check.due("19: one more, kind " + kind, made[kind].reason(0, 1, least[kind] + 1), isOfUse ? 1 : Check.NONE);
            Check.due("19: the most, kind " + kind, made[kind].reason(0, 1, most[kind]), isOfUse ? 99 : 0);
            Check.due("19: above the most, kind " + kind, made[kind].reason(0, 1, most[kind] + 1), Check.NONE);
        }
    }

    /** Eight rebels who want eighty each: the last finds one if there are 561. */
    private static EggReasons rebels(int eggs) {
        EggReasons x = Check.houseOf(2, 2, 2, 2, 2, 2, 2, 2);
        for (int person = 0; person < 8; person++) x.set(person, 1, 20);
        x.house(0, eggs);
        x.house(1, 50);
        x.house(2, 501);
        return x;
    }

    private static void enough() {
        new Edge("20", () -> rebels(461)).refused("not with 99", Check.NONE, x -> x.enough(1));
        new Edge("20", () -> rebels(462)).asked("just with 99", x -> x.enough(1), 99);
        new Edge("20", () -> rebels(463)).asked("just with 98", x -> x.enough(1), 98);
        new Edge("20", () -> rebels(560)).asked("just with 1", x -> x.enough(1), 1);
        new Edge("20", () -> rebels(561)).asked("with none", x -> x.enough(1), 0);
        new Edge("20", () -> rebels(999)).refused("not for 60 days", Check.NONE, x -> x.enough(60));
        Edge none = new Edge("20", EggReasons::new);
        none.asked("nobody is there, 1 day", x -> x.enough(1), 0);
        none.asked("nobody is there, 60 days", x -> x.enough(60), 0);
        none.outside("n", 1, 60, EggReasons::enough);
        new Edge("20", Edge::full).outside("n", 1, 60, EggReasons::enough);
        new Edge("20", () -> rebels(0)).outside("n ahead of NONE", 1, 60, EggReasons::enough);
        new Edge("20", () -> cooks(2, 0, 5)).asked("the last of them on day 1", x -> x.enough(1), 0);
        new Edge("20", () -> cooks(3, 0, 5)).asked("none on day 2", x -> x.enough(2), 1);
        new Edge("20", () -> cooks(4, 0, 5)).asked("one on day 2", x -> x.enough(2), 0);
    }

    private static EggReasons atTheMost() {
        EggReasons x = Check.houseOf(3);
        x.house(2, 99999999);
        return x;
    }

    private static void kind() {
        Edge poor = new Edge("21", () -> cooks(0, 0, 5));
        poor.asked("all bring nothing, 1 day", x -> x.kind(0, 1), 0);
        poor.asked("all bring nothing, 60 days", x -> x.kind(0, 60), 0);
        Edge rich = new Edge("21", () -> Check.houseOf(0));
        rich.asked("the last kind, 1 day", x -> x.kind(0, 1), 5);
        rich.asked("the last kind, 60 days", x -> x.kind(0, 60), 5);
        new Edge("21", EdgeBestTest::atTheMost).asked("no more can be", x -> x.kind(0, 1), 0);
        // One egg, by kinds: 1, 2, 2, 0, 3, 4 with a REASON of 1; 0, 2, 1, 0, 2, 2 with none.
        new Edge("21", () -> cooks(1, 0, 1)).asked("twice two", x -> x.kind(0, 1), 5);
        new Edge("21", () -> cooks(1, 0, 0)).asked("of three the least", x -> x.kind(0, 1), 1);
        Edge e = new Edge("21", Edge::full);
        e.outside("n", 1, 60, (x, n) -> x.kind(1, n));
        e.outside("person", 0, 2, (x, person) -> x.kind(person, 1));
        new Edge("21", EggReasons::new).refused("nobody is there", Check.BEYOND, x -> x.kind(0, 1));
        new Edge("21", Edge::fullOfEight).outside("person of eight", 0, 7, (x, person) -> x.kind(person, 1));
    }

    /** A cook who is asked about, and one behind him who wants so many of what is there. */
    private static EggReasons behind(int eggs, int laid, int need) {
        EggReasons x = cooks(eggs, 0, 5, 5);
        x.house(1, laid);
        x.set(1, 1, need);
        return x;
    }

    private static EggReasons leader(int eggs) {
        EggReasons x = Check.houseOf(5);
        x.house(0, eggs - 1);
        x.house(1, 1);
        return x;
    }

    private static void needs() {
        new Edge("22", () -> behind(39, 1, 0)).asked("half of 40", x -> x.needs(0, 1), 20);
        new Edge("22", () -> behind(38, 1, 0)).asked("half of 39", x -> x.needs(0, 1), 19);
        new Edge("22", () -> behind(37, 1, 0)).asked("half of 38", x -> x.needs(0, 1), 19);
        new Edge("22", () -> behind(39, 1, 19)).asked("one and 19 of 40", x -> x.needs(0, 1), 1);
        new Edge("22", () -> behind(39, 1, 20)).asked("none and 20 of 40", x -> x.needs(0, 1), 0);
        new Edge("22", () -> behind(38, 1, 20)).refused("20 of 39", Check.NONE, x -> x.needs(0, 1));
        new Edge("22", () -> behind(5, 0, 20)).asked("LAID can't be less", x -> x.needs(0, 1), 20);
        // A leader without a need wants twelve on DAY 0: half of 24, and too many of 23, of which 11 would do.
        new Edge("22", () -> leader(24)).asked("12 of 24 without a need", x -> x.needs(0, 1), 0);
        new Edge("22", () -> leader(23)).refused("no NEED is below 0", Check.NONE, x -> x.needs(0, 1));
        Edge many = new Edge("22", () -> behind(999, 99, 0));
        many.asked("the most for 60 days", x -> x.needs(0, 60), 20);
        many.outside("n", 1, 60, (x, n) -> x.needs(0, n));
        Edge none = new Edge("22", () -> behind(38, 1, 20));
        none.outside("n ahead of NONE", 1, 60, (x, n) -> x.needs(0, n));
        none.outside("person ahead of NONE", 0, 1, (x, person) -> x.needs(person, 1));
        Edge e = new Edge("22", Edge::full);
        e.outside("n", 1, 60, (x, n) -> x.needs(2, n));
        e.outside("person", 0, 2, (x, person) -> x.needs(person, 60));
        new Edge("22", EggReasons::new).refused("nobody is there", Check.BEYOND, x -> x.needs(0, 1));
    }

    private static void keep() {
        Edge none = new Edge("23", EggReasons::new);
        none.asked("nobody is there, 1 day", x -> x.keep(1), 0);
        none.asked("nobody is there, 20 days", x -> x.keep(20), 0);
        none.outside("n", 1, 20, EggReasons::keep);
        new Edge("23", Edge::full).outside("n", 1, 20, EggReasons::keep);
        Edge eight = new Edge("23", () -> cooks(0, 0, 5, 5, 5, 5, 5, 5, 5, 5));
        eight.asked("all, 1 day", x -> x.keep(1), 255);
        eight.asked("all, 20 days", x -> x.keep(20), 255);
        eight.outside("n", 1, 20, EggReasons::keep);
        // Each wants three, and one egg is enough for the last that comes in.
        int[][] rows = {{0, 255}, {1, 127}, {3, 127}, {4, 63}, {6, 63}, {7, 31}, {19, 1}, {21, 1}, {22, 0}};
        for (int[] row : rows) {
            new Edge("23", () -> cooks(row[0], 0, 5, 5, 5, 5, 5, 5, 5, 5)).asked("eggs " + row[0], x -> x.keep(1), row[1]);
        }
    }

    private static EggReasons watchedFor(int first, int second) {
        EggReasons x = cooks(0, 0, 5, 5);
        x.set(0, 3, first);
        x.set(1, 3, second);
        return x;
    }

    /** Those in the set are WATCHED for 99 days, be they watched for fewer now or not. */
    private static void keepDays() {
        new Edge("23", () -> watchedFor(20, 20)).asked("watched for all 20 days", x -> x.keep(20), 0);
        new Edge("23", () -> watchedFor(19, 20)).asked("the first is let in on the 20th", x -> x.keep(20), 1);
        new Edge("23", () -> watchedFor(20, 19)).asked("the second is let in on the 20th", x -> x.keep(20), 2);
        new Edge("23", () -> watchedFor(19, 19)).asked("both are let in on the 20th", x -> x.keep(20), 3);
        new Edge("23", () -> watchedFor(19, 19)).asked("not within 19", x -> x.keep(19), 0);
        new Edge("23", () -> watchedFor(1, 99)).asked("not on the first day", x -> x.keep(1), 0);
        new Edge("23", () -> watchedFor(1, 99)).asked("but on the second", x -> x.keep(2), 1);
    }

    private static EggReasons broke(int... eggs) {
        EggReasons x = cooks(0, 0, new int[eggs.length]);
        for (int person = 0; person < eggs.length; person++) x.set(person, 4, eggs[person]);
        return x;
    }

    private static void most() {
        Edge none = new Edge("24", EggReasons::new);
        none.refused("nobody is there, 0 days", Check.NONE, x -> x.most(0));
        none.refused("nobody is there, 100 days", Check.NONE, x -> x.most(100));
        none.outside("n ahead of nobody", 0, 100, EggReasons::most);
        new Edge("24", Edge::full).outside("n", 0, 100, EggReasons::most);
        Edge one = new Edge("24", () -> broke(0));
        one.asked("one alone, 0 days", x -> x.most(0), 0);
        one.asked("one alone, 100 days", x -> x.most(100), 0);
        new Edge("24", () -> broke(5, 5, 5)).asked("of several the least", x -> x.most(0), 0);
        new Edge("24", () -> broke(5, 6, 6)).asked("of two the least", x -> x.most(0), 1);
        new Edge("24", () -> broke(5, 6, 7)).asked("the most", x -> x.most(0), 2);
        new Edge("24", () -> broke(0, 0, 0, 0, 0, 0, 0, 1)).asked("the last of eight", x -> x.most(100), 7);
        new Edge("24", () -> broke(99998, 99999)).asked("the most there can be", x -> x.most(0), 1);
        new Edge("24", () -> wanting(99998)).asked("one less on 0 days", x -> x.most(0), 1);
        new Edge("24", () -> wanting(99998)).asked("as many, held", x -> x.most(1), 0);
    }

    private static EggReasons wanting(int broken) {
        EggReasons x = broke(broken, 99999);
        x.house(0, 6);
        return x;
    }
}
