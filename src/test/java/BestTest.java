/** Promises 18 to 24: what is best. */
public final class BestTest {
    public static void main(String[] args) {
        turns();
        reason();
        enough();
        kind();
        needs();
        keep();
        most();
        Check.end();
    }

    private static void turns() {
        EggReasons x = Check.houseOf(0, 0, 0);
        x.house(0, 3);
        x.house(1, 0);
        Check.due("18: all alike", x.turns(1), Check.NONE);
        x.set(1, 2, 9);
        x.set(2, 2, 9);
        String before = Check.told(x);
        Check.due("18: of several the least", x.turns(1), 1);
        Check.same("18: nothing changes", Check.told(x), before);
        x.set(2, 2, 10);
        Check.due("18: the most", x.turns(1), 2);
        x.set(0, 2, 10);
        Check.due("18: as it is is best", x.turns(1), Check.NONE);
        x.house(0, 6);
        Check.due("18: the second and the third", x.turns(1), 12);
        Check.due("18: 0 days", x.turns(0), Check.BEYOND);
        Check.due("18: 61 days", x.turns(61), Check.BEYOND);
        Check.due("18: -1 days", x.turns(-1), Check.BEYOND);
        Check.due("18: 60 days", x.turns(60), 12);
        Check.due("18: alone", Check.houseOf(0).turns(5), Check.NONE);
        EggReasons y = Check.houseOf(3, 3, 3, 3, 3, 3, 3, 0);
        y.house(0, 4);
        y.house(1, 0);
        Check.due("18: with the eighth", y.turns(1), 7);
    }

    private static void reason() {
        EggReasons x = Check.houseOf(0, 3);
        x.house(2, 100);
        String before = Check.told(x);
        Check.due("19: nothing is needed", x.reason(0, 1, 100), 0);
        Check.due("19: 1", x.reason(0, 1, 101), 1);
        Check.due("19: just", x.reason(0, 1, 130), 10);
        Check.due("19: one more", x.reason(0, 1, 131), 11);
        Check.due("19: the greatest", x.reason(0, 1, 397), 99);
        Check.due("19: too much", x.reason(0, 1, 398), Check.NONE);
        Check.due("19: a poacher", x.reason(1, 60, 99999999), Check.NONE);
        Check.same("19: nothing changes", Check.told(x), before);
        Check.due("19: v 0", x.reason(0, 1, 0), 0);
        Check.due("19: nobody", x.reason(2, 1, 1), Check.BEYOND);
        Check.due("19: nobody", x.reason(-1, 1, 1), Check.BEYOND);
        Check.due("19: 0 days", x.reason(0, 0, 1), Check.BEYOND);
        Check.due("19: 61 days", x.reason(0, 61, 1), Check.BEYOND);
        Check.due("19: v -1", x.reason(0, 1, -1), Check.BEYOND);
        Check.due("19: v 100000000", x.reason(0, 1, 100000000), Check.BEYOND);
        x.house(2, 99999999);
        Check.due("19: v 99999999", x.reason(1, 60, 99999999), 0);
    }

    private static void enough() {
        EggReasons x = Check.houseOf(0, 0);
        x.house(0, 0);
        x.house(1, 7);
        String before = Check.told(x);
        Check.due("20: the second has one", x.enough(1), 4);
        Check.same("20: nothing changes", Check.told(x), before);
        x.house(0, 4);
        Check.due("20: none", x.enough(1), 0);
        Check.due("20: for two days", x.enough(2), 4);
        Check.due("20: for 60 days", x.enough(60), 8);
        Check.due("20: 0 days", x.enough(0), Check.BEYOND);
        Check.due("20: 61 days", x.enough(61), Check.BEYOND);
        EggReasons y = Check.houseOf(2, 2, 2, 2, 2, 2, 2, 2);
        for (int i = 0; i < 8; i++) y.set(i, 1, 20);
        y.house(0, 0);
        y.house(2, 501);
        Check.due("20: not with 99", y.enough(1), Check.NONE);
        y.house(0, 462);
        Check.due("20: just with 99", y.enough(1), 99);
        EggReasons z = Check.houseOf(0);
        z.house(0, 0);
        z.house(1, 0);
        z.days(3);
        Check.due("20: more than there were", z.enough(1), 1);
    }

    private static void kind() {
        EggReasons x = Check.houseOf(3);
        String before = Check.told(x);
        Check.due("21: a leader breaks most", x.kind(0, 1), 5);
        Check.same("21: nothing changes", Check.told(x), before);
        x.set(0, 1, 0);
        x.house(0, 0);
        x.house(1, 0);
        Check.due("21: of several the least", x.kind(0, 1), 0);
        x.house(0, 1);
        Check.due("21: one egg", x.kind(0, 1), 5);
        x.set(0, 1, 1);
        x.set(0, 2, 0);
        x.house(0, 3);
        x.days(1);
        x.house(0, 3);
        Check.due("21: a pupil without a reason", x.kind(0, 1), 4);
        x.set(0, 2, 9);
        Check.due("21: a leader on a common day", x.kind(0, 1), 5);
        x.house(2, 99999999);
        Check.due("21: no more to be had", x.kind(0, 60), 0);
        Check.due("21: nobody", x.kind(1, 1), Check.BEYOND);
        Check.due("21: nobody", x.kind(-1, 1), Check.BEYOND);
        Check.due("21: 0 days", x.kind(0, 0), Check.BEYOND);
        Check.due("21: 61 days", x.kind(0, 61), Check.BEYOND);
    }

    private static void needs() {
        EggReasons x = Check.houseOf(0, 0);
        x.set(1, 1, 0);
        x.house(0, 10);
        x.house(1, 10);
        String before = Check.told(x);
        Check.due("22: half of 20", x.needs(0, 1), 10);
        Check.same("22: nothing changes", Check.told(x), before);
        x.set(1, 1, 4);
        Check.due("22: what the other leaves", x.needs(0, 1), 6);
        x.set(1, 1, 11);
        Check.due("22: the other is too many", x.needs(0, 1), Check.NONE);
        x.set(1, 1, 10);
        Check.due("22: none at all", x.needs(0, 1), 0);
        x.house(0, 900);
        Check.due("22: the greatest", x.needs(0, 1), 20);
        Check.due("22: the greatest on 60 days", x.needs(0, 60), 20);
        Check.due("22: nobody", x.needs(2, 1), Check.BEYOND);
        Check.due("22: nobody", x.needs(-1, 1), Check.BEYOND);
        Check.due("22: 0 days", x.needs(0, 0), Check.BEYOND);
        Check.due("22: 61 days", x.needs(0, 61), Check.BEYOND);
        // It is LAID at the end that counts: 1 less, then 1 more again.
        EggReasons y = Check.houseOf(0);
        y.house(0, 0);
        y.house(1, 20);
        int greatest = y.needs(0, 3);
        y.set(0, 1, greatest);
        Check.due("22: not less at the end", y.on(3, 1) >= 20 ? 1 : 0, 1);
        for (int need = greatest + 1; need <= 20; need++) {
            y.set(0, 1, need);
            Check.due("22: less at the end", y.on(3, 1) < 20 ? 1 : 0, 1);
        }
    }

    private static void keep() {
        EggReasons x = Check.houseOf(0, 0, 0);
        x.house(0, 5);
        x.house(1, 0);
        String before = Check.told(x);
        Check.due("23: of several the least", x.keep(1), 1);
        Check.same("23: nothing changes", Check.told(x), before);
        x.set(1, 1, 5);
        Check.due("23: the second", x.keep(1), 2);
        x.house(0, 9);
        Check.due("23: nobody", x.keep(1), 0);
        x.house(0, 0);
        Check.due("23: all", x.keep(1), 7);
        x.house(1, 0);
        x.set(0, 3, 20);
        x.set(1, 3, 19);
        x.set(2, 3, 19);
        Check.due("23: watched long enough", x.keep(19), 0);
        Check.due("23: watched too short, 99 days", x.keep(20), 6);
        Check.due("23: 0 days", x.keep(0), Check.BEYOND);
        Check.due("23: 21 days", x.keep(21), Check.BEYOND);
        Check.due("23: nobody there", new EggReasons().keep(20), 0);
        EggReasons y = Check.houseOf(0, 0, 0, 0, 0, 0, 0, 0);
        y.house(0, 0);
        y.house(1, 0);
        Check.due("23: all eight", y.keep(20), 255);
        EggReasons z = Check.houseOf(0, 0, 0, 0);
        z.house(1, 0);
        z.house(0, 6);
        z.set(3, 1, 0);
        z.set(0, 1, 6);
        Check.due("23: one and not two", z.keep(1), 1);
        EggReasons w = Check.houseOf(0, 0, 0, 0);
        w.set(0, 1, 1);
        w.set(1, 1, 1);
        w.set(2, 1, 2);
        w.set(3, 1, 1);
        w.house(1, 0);
        w.house(0, 3);
        // Sets 3 and 4 both serve: the fewest come ahead of the least.
        Check.due("23: fewest ahead of least", w.keep(1), 4);
    }

    private static void most() {
        EggReasons x = new EggReasons();
        Check.due("24: BEYOND ahead of NONE", x.most(101), Check.BEYOND);
        Check.due("24: nobody is there", x.most(0), Check.NONE);
        x.person(0);
        x.person(0);
        x.person(0);
        Check.due("24: of several the least", x.most(0), 0);
        x.set(2, 1, 4);
        x.set(1, 1, 4);
        String before = Check.told(x);
        Check.due("24: on one day", x.most(1), 1);
        Check.same("24: nothing changes", Check.told(x), before);
        x.set(0, 4, 50);
        Check.due("24: what was broken before counts", x.most(1), 0);
        x.set(2, 4, 49);
        Check.due("24: on one day they are even", x.most(1), 0);
        Check.due("24: on two", x.most(2), 2);
        x.house(0, 999);
        x.house(1, 99);
        Check.due("24: on 100", x.most(100), 2);
        for (int i = 3; i < 8; i++) x.person(1);
        Check.due("24: of eight", x.most(0), 0);
        x.set(7, 4, 99999);
        Check.due("24: the eighth", x.most(100), 7);
        Check.due("24: -1", x.most(-1), Check.BEYOND);
        Check.due("24: 101", x.most(101), Check.BEYOND);
    }
}
