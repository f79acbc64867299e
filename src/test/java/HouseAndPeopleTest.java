/** Promises 1 to 11: the house and its people. */
public final class HouseAndPeopleTest {
    public static void main(String[] args) {
        newObject();
        house();
        now();
        person();
        of();
        wants();
        saysEnters();
        saysWatched();
        set();
        turn();
        as();
        swap();
        breaks();
        Check.end();
    }

    private static void newObject() {
        EggReasons x = new EggReasons();
        int[] first = {0, 50, 12, 0, 0, 0, 0};
        for (int what = 0; what < first.length; what++) Check.due("1: now(" + what + ")", x.now(what), first[what]);
        Check.due("1: nobody", x.count(0), 0);
        Check.due("1: the tape", x.count(1), 0);
        Check.due("1: watched", x.count(2), 0);
        Check.due("1: reasons", x.count(3), 0);
        Check.due("1: findings", x.status(-1), 0);
        Check.due("1: no image", x.tear(), 0);
        Check.due("1: no image", x.undo(), Check.NONE);
        for (int s = 0; s < 4; s++) Check.due("1: sheet " + s, x.book(s), Check.MISSING);
    }

    private static void house() {
        EggReasons x = new EggReasons();
        int[] first = {50, 12, 0};
        int[] most = {999, 99, 99999999};
        for (int what = 0; what < 3; what++) {
            Check.due("2: first", x.house(what, most[what]), first[what]);
            Check.due("2: most", x.now(what + 1), most[what]);
            Check.due("2: above", x.house(what, most[what] + 1), Check.BEYOND);
            Check.due("2: below", x.house(what, -1), Check.BEYOND);
            Check.due("2: stays", x.house(what, 0), most[what]);
            Check.due("2: least", x.now(what + 1), 0);
        }
        Check.due("2: what 3", x.house(3, 0), Check.BEYOND);
        Check.due("2: what -1", x.house(-1, 0), Check.BEYOND);
        Check.due("2: extremes", x.house(0, Integer.MIN_VALUE), Check.BEYOND);
        Check.due("2: extremes", x.house(2, Integer.MAX_VALUE), Check.BEYOND);
        Check.due("2: findings", x.status(0), 10);
    }

    private static void now() {
        EggReasons x = Check.houseOf(0, 3, 0);
        x.set(0, 3, 2);
        x.set(2, 3, 1);
        x.set(0, 4, 7);
        x.set(1, 4, 5);
        Check.due("3: watched", x.now(5), 5);
        Check.due("3: broke", x.now(6), 12);
        Check.due("3: -1", x.now(-1), Check.BEYOND);
        Check.due("3: 7", x.now(7), Check.BEYOND);
        EggReasons y = Check.houseOf(1, 1, 1, 1, 1, 1, 1, 1);
        y.set(0, 3, 99);
        y.set(7, 3, 1);
        for (int i = 0; i < 8; i++) y.set(i, 4, 99999);
        Check.due("3: watched of eight", y.now(5), 129);
        Check.due("3: broke of eight", y.now(6), 799992);
        x.house(0, 0);
        x.house(1, 0);
        x.days(2);
        Check.due("3: DAY", x.now(0), 2);
        Check.due("3: HUNGRY", x.now(4), 2);
    }

    private static void person() {
        EggReasons x = new EggReasons();
        Check.due("4: below", x.person(-1), Check.BEYOND);
        Check.due("4: above", x.person(6), Check.BEYOND);
        for (int i = 0; i < 8; i++) Check.due("4: number", x.person(i % 6), i);
        Check.due("4: BEYOND ahead of FULL", x.person(6), Check.BEYOND);
        Check.due("4: FULL", x.person(0), Check.FULL);
        Check.due("4: people", x.count(0), 8);
        int[] first = {1, 3, 5, 0, 0};
        for (int what = 0; what <= 4; what++) Check.due("4: as at first", x.of(7, what), first[what]);
    }

    private static void of() {
        EggReasons x = Check.houseOf(3);
        x.set(0, 1, 20);
        x.set(0, 2, 99);
        x.set(0, 3, 98);
        x.set(0, 4, 97);
        int[] want = {3, 20, 99, 98, 97, 21};
        for (int what = 0; what <= 5; what++) Check.due("5: what " + what, x.of(0, what), want[what]);
        Check.due("5: what 6", x.of(0, 6), Check.BEYOND);
        Check.due("5: what -1", x.of(0, -1), Check.BEYOND);
        Check.due("5: nobody", x.of(1, 0), Check.BEYOND);
        Check.due("5: nobody", x.of(-1, 0), Check.BEYOND);
    }

    private static void wants() {
        EggReasons x = Check.houseOf(0, 1, 2, 3, 4, 5);
        for (int i = 0; i < 6; i++) x.set(i, 1, 4);
        wantRow(x, "5: day 0", 4, 4, 4, 5, 5, 16);
        x.house(2, 500);
        wantRow(x, "5: column 500", 4, 4, 4, 5, 5, 16);
        x.house(2, 501);
        wantRow(x, "5: column 501", 4, 4, 16, 5, 5, 28);
        x.house(0, 0);
        x.house(1, 0);
        x.days(1);
        wantRow(x, "5: day 1", 4, 1, 16, 4, 2, 16);
        x.days(9);
        wantRow(x, "5: day 10", 4, 4, 16, 5, 5, 28);
        x.house(2, 0);
        x.days(1);
        wantRow(x, "5: day 11", 4, 1, 4, 4, 2, 4);
        for (int i = 0; i < 6; i++) x.set(i, 1, 0);
        wantRow(x, "5: no need, odd", 0, 1, 0, 0, 2, 0);
        x.days(9);
        wantRow(x, "5: no need, day 20", 0, 0, 0, 1, 1, 12);
    }

    private static void wantRow(EggReasons x, String what, int... want) {
        for (int i = 0; i < want.length; i++) Check.due(what + " of " + i, x.of(i, 5), want[i]);
    }

    private static void saysEnters() {
        EggReasons x = Check.houseOf(0, 1, 2, 3, 4, 5);
        for (int i = 0; i < 6; i++) x.set(i, 2, 7);
        int[] one = {7, 2, 8, 0, 9, 16};
        int[] many = {6993, 1998, 7992, 0, 2005, 15984};
        for (int i = 0; i < 6; i++) {
            Check.due("6: 0 eggs", x.says(i, 0, 0), 0);
            Check.due("6: 1 egg", x.says(i, 0, 1), one[i]);
            Check.due("6: 999 eggs", x.says(i, 0, 999), many[i]);
        }
        Check.due("6: 1000 eggs", x.says(0, 0, 1000), Check.BEYOND);
        Check.due("6: -1 eggs", x.says(0, 0, -1), Check.BEYOND);
        Check.due("6: what 2", x.says(0, 2, 1), Check.BEYOND);
        Check.due("6: what -1", x.says(0, -1, 1), Check.BEYOND);
        Check.due("6: nobody", x.says(6, 0, 1), Check.BEYOND);
        Check.due("6: nobody", x.says(-1, 0, 1), Check.BEYOND);
        Check.due("6: nothing broken", x.now(6), 0);
        Check.due("6: nothing entered", x.now(3), 0);
    }

    private static void saysWatched() {
        EggReasons x = Check.houseOf(0, 1, 2, 3, 4, 5);
        for (int i = 0; i < 6; i++) x.set(i, 2, 0);
        int[] five = {2, 0, 0, 0, 0, 0};
        int[] six = {2, 0, 0, 0, 1, 0};
        int[] thirty = {2, 0, 0, 0, 1, 0};
        int[] thirtyOne = {2, 0, 0, 0, 1, 1};
        for (int i = 0; i < 6; i++) {
            Check.due("6: watched for 0", x.says(i, 1, 0), 0);
            Check.due("6: watched for 5", x.says(i, 1, 5), five[i]);
            Check.due("6: watched for 6", x.says(i, 1, 6), six[i]);
            Check.due("6: watched for 30", x.says(i, 1, 30), thirty[i]);
            Check.due("6: watched for 31", x.says(i, 1, 31), thirtyOne[i]);
        }
        x.set(0, 2, 1);
        Check.due("6: v just n", x.says(0, 1, 10), 0);
    }

    private static void set() {
        EggReasons x = Check.houseOf(0, 0);
        int[] first = {0, 3, 5, 0, 0};
        int[] most = {0, 20, 99, 99, 99999};
        for (int what = 1; what <= 4; what++) {
            Check.due("7: first", x.set(1, what, most[what]), first[what]);
            Check.due("7: most", x.of(1, what), most[what]);
            Check.due("7: above", x.set(1, what, most[what] + 1), Check.BEYOND);
            Check.due("7: below", x.set(1, what, -1), Check.BEYOND);
            Check.due("7: stays", x.set(1, what, 0), most[what]);
            Check.due("7: of the other", x.of(0, what), first[what]);
        }
        Check.due("7: what 0", x.set(0, 0, 0), Check.BEYOND);
        Check.due("7: what 5", x.set(0, 5, 0), Check.BEYOND);
        Check.due("7: nobody", x.set(2, 1, 0), Check.BEYOND);
        Check.due("7: nobody", x.set(-1, 1, 0), Check.BEYOND);
    }

    private static void turn() {
        EggReasons x = Check.houseOf(0);
        x.set(0, 1, 9);
        x.set(0, 2, 8);
        x.set(0, 3, 7);
        x.set(0, 4, 6);
        Check.due("8: was a cook", x.turn(0, 5), 0);
        Check.due("8: was a leader", x.turn(0, 3), 5);
        Check.same("8: the rest stays", Check.told(x), "0 50 12 0 0 1 6 people 1 | 3 9 8 7 6");
        Check.due("8: kind 6", x.turn(0, 6), Check.BEYOND);
        Check.due("8: kind -1", x.turn(0, -1), Check.BEYOND);
        Check.due("8: nobody", x.turn(1, 0), Check.BEYOND);
        Check.due("8: stays", x.of(0, 0), 3);
    }

    private static void as() {
        int[] sets = {1, 3, 5, 9, 19, 37};
        EggReasons x = Check.houseOf(0, 1, 2, 3, 4, 5);
        for (int i = 0; i < 6; i++) {
            x.set(i, 2, 10 + i);
            for (int kind = 0; kind < 6; kind++) {
                boolean isIt = (sets[i] >> kind & 1) != 0;
                Check.due("9: " + i + " as " + kind, x.as(i, kind), isIt ? 10 + i : Check.KIND);
            }
        }
        Check.due("9: kind 6", x.as(0, 6), Check.BEYOND);
        Check.due("9: kind -1", x.as(0, -1), Check.BEYOND);
        Check.due("9: nobody", x.as(6, 0), Check.BEYOND);
        Check.due("9: nobody", x.as(-1, 0), Check.BEYOND);
        Check.due("9: KIND is counted", x.status(2), 36 - 13);
    }

    private static void swap() {
        EggReasons x = Check.houseOf(0, 3, 5);
        x.set(0, 1, 9);
        x.set(0, 2, 8);
        x.set(0, 3, 7);
        x.set(0, 4, 6);
        Check.due("10: swap", x.swap(0, 2), 1);
        Check.same("10: swapped", Check.told(x), "0 50 12 0 0 4 6 people 3 | 5 3 5 0 0 | 3 3 5 0 0 | 0 9 8 7 6");
        Check.due("10: one and the same", x.swap(1, 1), Check.BEYOND);
        Check.due("10: nobody", x.swap(0, 3), Check.BEYOND);
        Check.due("10: nobody", x.swap(3, 0), Check.BEYOND);
        Check.due("10: nobody", x.swap(-1, 0), Check.BEYOND);
        Check.due("10: nobody", x.swap(0, -1), Check.BEYOND);
        Check.due("10: back", x.swap(2, 0), 1);
        Check.due("10: back", x.of(0, 1), 9);
    }

    private static void breaks() {
        EggReasons x = Check.houseOf(0, 4, 5);
        Check.due("11: nobody", x.breaks(3, 1), Check.BEYOND);
        Check.due("11: nobody", x.breaks(-1, 1), Check.BEYOND);
        Check.due("11: 0 eggs", x.breaks(0, 0), Check.BEYOND);
        Check.due("11: 100 eggs", x.breaks(0, 100), Check.BEYOND);
        Check.due("11: not so many", x.breaks(0, 51), Check.STATE);
        Check.due("11: all of them", x.breaks(0, 50), 250);
        Check.same("11: told", Check.told(x), "0 0 12 250 0 0 50 people 3 | 0 3 5 0 50 | 4 3 5 0 0 | 5 3 5 0 0");
        x.house(0, 999);
        Check.due("11: a pupil", x.breaks(1, 6), 267);
        Check.due("11: it is watched", x.breaks(1, 1), Check.STATE);
        Check.due("11: BEYOND ahead of STATE", x.breaks(1, 0), Check.BEYOND);
        Check.due("11: eggs", x.now(1), 993);
        x.set(1, 3, 0);
        x.set(1, 4, 99998);
        x.breaks(1, 5);
        Check.due("11: BROKE is held", x.of(1, 4), 99999);
        x.house(2, 99999999);
        Check.due("11: COLUMN is held", x.breaks(2, 99), 99999999);
        Check.due("11: a leader is watched", x.of(2, 3), 1);
        x.set(0, 2, 0);
        x.breaks(0, 1);
        Check.due("11: a cook is watched", x.now(5), 5);
        Check.due("11: no day went", x.now(0), 0);
        Check.due("11: laid as before", x.now(2), 12);
        x.turn(2, 1);
        x.set(2, 3, 1);
        Check.due("11: watched still", x.breaks(2, 1), Check.STATE);
    }
}
