/** Promises 12 to 17: how days go. */
public final class DaysTest {
    public static void main(String[] args) {
        oneDay();
        laidByWhatWasBroken();
        caps();
        hungryDays();
        watchedDays();
        columnWithinTheDay();
        days();
        on();
        then();
        hunger();
        comes();
        watched();
        beyondTheLastDay();
        Check.end();
    }

    private static void oneDay() {
        EggReasons x = Check.houseOf(0, 1, 2, 3, 4, 5);
        Check.due("12: days(1)", x.days(1), 30);
        Check.same("12: told", Check.told(x), "1 30 11 232 0 0 32 people 6"
            + " | 0 3 5 0 3 | 1 3 5 0 3 | 2 3 5 0 3 | 3 3 5 0 4 | 4 3 5 0 4 | 5 3 5 0 15");
    }

    private static void laidByWhatWasBroken() {
        laidAfter("half of 20", 20, 10, 10);
        laidAfter("more than half of 20", 20, 11, 9);
        laidAfter("a fourth of 20", 20, 5, 10);
        laidAfter("below a fourth of 20", 20, 4, 11);
        laidAfter("below half of 19", 19, 9, 10);
        laidAfter("more than half of 19", 19, 10, 9);
        laidAfter("above a fourth of 19", 19, 5, 10);
        laidAfter("below a fourth of 19", 19, 4, 11);
        EggReasons x = new EggReasons();
        x.house(0, 0);
        x.house(1, 0);
        x.days(1);
        Check.due("12: none there, LAID", x.now(2), 0);
    }

    private static void laidAfter(String what, int there, int need, int laid) {
        EggReasons x = Check.houseOf(0);
        x.house(0, there - 10);
        x.house(1, 10);
        x.set(0, 1, need);
        Check.due("12: " + what, x.days(1), there - need);
        Check.due("12: LAID, " + what, x.now(2), laid);
    }

    private static void caps() {
        EggReasons x = Check.houseOf(0);
        x.house(0, 990);
        x.house(1, 99);
        x.set(0, 1, 0);
        Check.due("12: EGGS at most", x.days(1), 999);
        Check.due("12: LAID at most", x.now(2), 99);
        x.house(0, 4);
        x.house(1, 0);
        x.set(0, 1, 3);
        x.set(0, 2, 99);
        x.set(0, 4, 99998);
        x.house(2, 99999900);
        Check.due("12: EGGS", x.days(1), 1);
        Check.due("12: LAID at least", x.now(2), 0);
        Check.due("12: COLUMN at most", x.now(3), 99999999);
        Check.due("12: BROKE at most", x.of(0, 4), 99999);
        // The half is of what there is after the cap: 499 of 999 here, not of 1098.
        EggReasons y = Check.houseOf(2, 2, 2, 2, 2, 2, 2, 2);
        for (int i = 0; i < 8; i++) y.set(i, 1, i < 6 ? 20 : 3);
        y.house(2, 501);
        y.house(0, 999);
        y.house(1, 99);
        Check.due("12: 504 of 999", y.days(1), 495);
        Check.due("12: 504 of 999, LAID", y.now(2), 98);
    }

    private static void hungryDays() {
        EggReasons x = Check.houseOf(0, 0);
        x.house(0, 3);
        x.house(1, 0);
        x.set(1, 1, 0);
        x.days(1);
        Check.due("12: all broken, but one had some", x.now(4), 0);
        x.house(0, 2);
        x.house(1, 0);
        x.days(1);
        Check.due("12: fewer than it wants", x.now(4), 0);
        Check.due("12: it broke those", x.of(0, 4), 5);
        x.house(1, 0);
        x.days(1);
        Check.due("12: none", x.now(4), 1);
        x.house(1, 0);
        x.set(1, 1, 20);
        x.days(1);
        Check.due("12: two, one day", x.now(4), 2);
        x.house(1, 0);
        x.set(0, 3, 1);
        x.set(1, 3, 1);
        x.days(1);
        Check.due("12: those that are watched", x.now(4), 2);
        x.house(0, 3);
        x.house(1, 0);
        x.days(1);
        Check.due("12: the second had none", x.now(4), 3);
        Check.due("12: told", x.of(1, 4), 0);
    }

    private static void watchedDays() {
        EggReasons x = Check.houseOf(0, 4);
        x.set(0, 2, 0);
        x.set(1, 1, 5);
        x.set(1, 3, 3);
        int[] cook = {2, 1, 0, 2};
        int[] pupil = {2, 1, 0, 0};
        int[] broke = {3, 3, 3, 6};
        for (int i = 0; i < 4; i++) {
            x.days(1);
            Check.due("12: cook watched", x.of(0, 3), cook[i]);
            Check.due("12: pupil watched", x.of(1, 3), pupil[i]);
            Check.due("12: cook broke", x.of(0, 4), broke[i]);
        }
        Check.due("12: pupil broke on day 3, odd", x.of(1, 4), 2);
        x.days(1);
        Check.due("12: pupil broke on day 4", x.of(1, 4), 8);
        Check.due("12: pupil is watched for 6", x.of(1, 3), 1);
        Check.due("12: nothing entered by no reason", x.now(3), 2 * 2 + 5 + 2 * 6 + 5);
    }

    private static void columnWithinTheDay() {
        EggReasons x = Check.houseOf(0, 2);
        x.house(2, 498);
        x.set(0, 2, 1);
        x.days(1);
        Check.due("12: above 500 by the one before", x.of(1, 4), 12);
        EggReasons y = Check.houseOf(2, 0);
        y.house(2, 498);
        y.days(1);
        Check.due("12: not yet above 500", y.of(0, 4), 3);
        EggReasons z = Check.houseOf(0, 2);
        z.house(2, 497);
        z.set(0, 2, 1);
        z.days(1);
        Check.due("12: just 500", z.of(1, 4), 3);
    }

    private static void days() {
        EggReasons x = new EggReasons();
        Check.due("12: 0 days", x.days(0), Check.BEYOND);
        Check.due("12: 101 days", x.days(101), Check.BEYOND);
        Check.due("12: -1 days", x.days(-1), Check.BEYOND);
        for (int i = 0; i < 99; i++) x.days(100);
        Check.due("12: DAY 9900", x.now(0), 9900);
        Check.due("12: above 9999", x.days(100), Check.STATE);
        Check.due("12: stays", x.now(0), 9900);
        Check.due("12: to 9999", x.days(99), 999);
        Check.due("12: DAY 9999", x.now(0), 9999);
        Check.due("12: BEYOND ahead of STATE", x.days(101), Check.BEYOND);
        Check.due("12: above 9999", x.days(1), Check.STATE);
        Check.due("12: STATE is counted", x.status(4), 2);
    }

    private static void on() {
        EggReasons x = Check.houseOf(0, 1, 2, 3, 4, 5);
        String before = Check.told(x);
        int[] none = {50, 12, 0, 0};
        int[] one = {30, 11, 232, 0};
        for (int what = 0; what < 4; what++) {
            Check.due("13: on 0", x.on(0, what), none[what]);
            Check.due("13: on 1", x.on(1, what), one[what]);
        }
        Check.same("13: nothing changes", Check.told(x), before);
        int[] hundred = new int[4];
        for (int what = 0; what < 4; what++) hundred[what] = x.on(100, what);
        Check.due("13: on 101", x.on(101, 0), Check.BEYOND);
        Check.due("13: on -1", x.on(-1, 0), Check.BEYOND);
        Check.due("13: what 4", x.on(0, 4), Check.BEYOND);
        Check.due("13: what -1", x.on(0, -1), Check.BEYOND);
        x.days(100);
        for (int what = 0; what < 4; what++) Check.due("13: as it came", hundred[what], x.now(what + 1));
    }

    private static void then() {
        EggReasons x = Check.houseOf(0, 0);
        x.set(1, 2, 0);
        String before = Check.told(x);
        int[] watched = {0, 2, 1, 0, 2};
        int[] broke = {0, 3, 3, 3, 6};
        for (int n = 0; n < 5; n++) {
            Check.due("14: watched on " + n, x.then(1, n, 0), watched[n]);
            Check.due("14: broke on " + n, x.then(1, n, 1), broke[n]);
        }
        x.set(0, 1, 1);
        Check.due("14: broke on 100", x.then(0, 100, 1), 100);
        x.set(0, 1, 3);
        Check.same("14: nothing changes", Check.told(x), before);
        Check.due("14: 101", x.then(0, 101, 0), Check.BEYOND);
        Check.due("14: -1", x.then(0, -1, 0), Check.BEYOND);
        Check.due("14: what 2", x.then(0, 0, 2), Check.BEYOND);
        Check.due("14: what -1", x.then(0, 0, -1), Check.BEYOND);
        Check.due("14: nobody", x.then(2, 0, 0), Check.BEYOND);
        Check.due("14: nobody", x.then(-1, 0, 0), Check.BEYOND);
    }

    private static void hunger() {
        EggReasons x = Check.houseOf(0);
        x.house(1, 0);
        x.house(0, 0);
        x.set(0, 3, 99);
        Check.due("15: on the 100th", x.hunger(), 100);
        x.set(0, 3, 0);
        Check.due("15: on the first", x.hunger(), 1);
        x.set(0, 1, 0);
        Check.due("15: never", x.hunger(), Check.NONE);
        Check.due("15: NONE is counted", x.status(3), 1);
        x.set(0, 1, 3);
        x.days(2);
        Check.due("15: more than there were", x.hunger(), 1);
        EggReasons y = Check.houseOf(0, 0);
        y.house(0, 0);
        y.house(1, 0);
        y.set(0, 3, 99);
        y.set(1, 3, 99);
        Check.due("15: the 100th", y.hunger(), 100);
        y.house(0, 4);
        y.set(0, 1, 1);
        y.set(1, 1, 1);
        Check.due("15: after the 100th", y.hunger(), Check.NONE);
    }

    private static void comes() {
        EggReasons x = Check.houseOf(0);
        x.set(0, 1, 1);
        x.set(0, 2, 2);
        Check.due("16: now", x.comes(0), 0);
        Check.due("16: on the first", x.comes(1), 1);
        Check.due("16: on the first", x.comes(2), 1);
        Check.due("16: on the second", x.comes(3), 2);
        Check.due("16: on the 100th", x.comes(200), 100);
        Check.due("16: later", x.comes(201), Check.NONE);
        Check.due("16: -1", x.comes(-1), Check.BEYOND);
        Check.due("16: 100000000", x.comes(100000000), Check.BEYOND);
        x.house(2, 99999999);
        Check.due("16: the most", x.comes(99999999), 0);
    }

    private static void watched() {
        EggReasons x = Check.houseOf(0, 1, 4);
        x.set(0, 2, 0);
        x.set(1, 3, 1);
        x.set(2, 1, 5);
        Check.due("17: the cook", x.watched(0), 1);
        Check.due("17: the boy", x.watched(1), 0);
        Check.due("17: the pupil", x.watched(2), 1);
        x.days(1);
        Check.due("17: the pupil now", x.watched(2), 0);
        x.days(1);
        Check.due("17: the pupil after that", x.watched(2), 1);
        Check.due("17: the boy never", x.watched(1), Check.NONE);
        Check.due("17: nobody", x.watched(3), Check.BEYOND);
        Check.due("17: nobody", x.watched(-1), Check.BEYOND);
    }

    /** ON goes on where days() may not: DAY is 1 more on each day, HUNGRY is held. */
    private static void beyondTheLastDay() {
        EggReasons x = Check.houseOf(1);
        x.house(0, 0);
        x.house(1, 0);
        for (int i = 0; i < 99; i++) x.days(100);
        x.days(99);
        Check.due("13: HUNGRY at 9999", x.now(4), 9999);
        Check.due("13: HUNGRY is held", x.on(5, 3), 9999);
        Check.due("15: not more than held", x.hunger(), Check.NONE);
        x.house(0, 900);
        Check.due("13: day 9999 is odd, day 10000 even", x.on(2, 0), 900 - 1 + 1 - 3);
    }
}
