/** Promises 28 to 38: sheets, images, counts and findings. */
public final class SheetsAndImagesTest {
    public static void main(String[] args) {
        sheet();
        write();
        copy();
        copyFindings();
        lays();
        book();
        read();
        images();
        undoOfSection1Only();
        count();
        status();
        statusOfAll();
        Check.end();
    }

    private static void sheet() {
        EggReasons x = new EggReasons();
        Check.due("28: 40 numbers", x.sheet(3, 64, 40), 40);
        Check.due("28: all 0", x.write(3, 39, 7), 0);
        Check.due("28: anew", x.sheet(3, 64, 40), 40);
        Check.due("28: all 0 again", x.write(3, 39, 7), 0);
        Check.due("28: none", x.sheet(0, 8, 0), 0);
        Check.due("28: there, but of none", x.book(0), 0);
        Check.due("28: missing", x.sheet(3, 0, 5), 0);
        Check.due("28: missing", x.write(3, 0, 1), Check.MISSING);
        Check.due("28: sheet 4", x.sheet(4, 8, 1), Check.BEYOND);
        Check.due("28: sheet -1", x.sheet(-1, 8, -1), Check.BEYOND);
        Check.due("28: 32 bits", x.sheet(0, 32, -1), Check.BEYOND);
        Check.due("28: 1 bit", x.sheet(0, 1, 1), Check.BEYOND);
        Check.due("28: -8 bits", x.sheet(0, -8, 1), Check.BEYOND);
        Check.due("28: n -1", x.sheet(0, 16, -1), Check.SIZE);
        Check.due("28: n 41", x.sheet(0, 16, 41), Check.BEYOND);
        Check.due("28: n -1, bits 0", x.sheet(0, 0, -1), Check.SIZE);
        Check.due("28: n 41, bits 0", x.sheet(0, 0, 41), Check.BEYOND);
        Check.due("28: n as low as can be", x.sheet(0, 8, Integer.MIN_VALUE), Check.SIZE);
        Check.due("28: still there", x.book(0), 0);
        Check.due("28: SIZE is counted", x.status(6), 3);
    }

    private static void write() {
        EggReasons x = new EggReasons();
        x.sheet(0, 8, 2);
        x.sheet(1, 16, 2);
        x.sheet(2, 64, 2);
        long v = 0x123456789abcdef0L;
        for (int s = 0; s < 3; s++) Check.due("29: was 0", x.write(s, 1, v), 0);
        Check.due("29: 8 bits", x.write(0, 1, 128), -16);
        Check.due("29: 16 bits", x.write(1, 1, 32768), -8464);
        Check.due("29: 64 bits", x.write(2, 1, Long.MIN_VALUE), v);
        Check.due("29: 8 bits", x.write(0, 1, 127), -128);
        Check.due("29: 16 bits", x.write(1, 1, 32767), -32768);
        Check.due("29: 64 bits", x.write(2, 1, -1000000001L), Long.MIN_VALUE);
        Check.due("29: 8 bits", x.write(0, 1, 0), 127);
        Check.due("29: 16 bits", x.write(1, 1, 0), 32767);
        Check.due("29: no finding, a number", x.write(2, 1, 0), -1000000001L);
        Check.due("29: the other one", x.write(2, 0, 0), 0);
        Check.due("29: no finding was told", x.status(-1), 0);
        Check.due("29: sheet 4", x.write(4, 0, 0), Check.BEYOND);
        Check.due("29: sheet -1", x.write(-1, 0, 0), Check.BEYOND);
        Check.due("29: missing ahead of no such number", x.write(3, 40, 0), Check.MISSING);
        Check.due("29: number 2", x.write(2, 2, 0), Check.BEYOND);
        Check.due("29: number -1", x.write(2, -1, 0), Check.BEYOND);
        x.sheet(2, 64, 0);
        Check.due("29: none at all", x.write(2, 0, 0), Check.BEYOND);
        Check.due("29: findings", x.status(-1), 6);
    }

    private static void row(EggReasons x, int s, long... numbers) {
        for (int i = 0; i < numbers.length; i++) x.write(s, i, numbers[i]);
    }

    private static void dueRow(String what, EggReasons x, int s, long... want) {
        for (int i = 0; i < want.length; i++) {
            long got = x.write(s, i, 0);
            x.write(s, i, got);
            Check.due(what + ", number " + i, got, want[i]);
        }
    }

    private static void copy() {
        EggReasons x = new EggReasons();
        x.sheet(0, 16, 6);
        x.sheet(1, 16, 3);
        row(x, 0, 1, 2, 3, 4, 5, 6);
        Check.due("30: to another", x.copy(0, 1, 1, 0, 3), 3);
        dueRow("30: to another", x, 1, 2, 3, 4);
        dueRow("30: these stay", x, 0, 1, 2, 3, 4, 5, 6);
        Check.due("30: upwards", x.copy(0, 0, 0, 1, 5), 5);
        dueRow("30: as they all were", x, 0, 1, 1, 2, 3, 4, 5);
        Check.due("30: downwards", x.copy(0, 1, 0, 0, 5), 5);
        dueRow("30: as they all were", x, 0, 1, 2, 3, 4, 5, 5);
        Check.due("30: none", x.copy(0, 6, 1, 3, 0), 0);
        Check.due("30: all onto themselves", x.copy(0, 0, 0, 0, 6), 6);
        dueRow("30: as they were", x, 0, 1, 2, 3, 4, 5, 5);
        x.sheet(3, 16, 40);
        for (int i = 0; i < 40; i++) x.write(3, i, 100 + i);
        Check.due("30: to a lower one", x.copy(3, 36, 1, 0, 3), 3);
        dueRow("30: to a lower one", x, 1, 136, 137, 138);
        Check.due("30: to a higher one", x.copy(1, 1, 3, 38, 2), 2);
        dueRow("30: to a higher one", x, 3, 100, 101, 102);
        Check.due("30: the one before", x.write(3, 37, 0), 137);
        Check.due("30: the last but one", x.write(3, 38, 0), 137);
        Check.due("30: the last", x.write(3, 39, 0), 138);
        Check.due("30: none behind the last", x.copy(3, 40, 3, 40, 0), 0);
        Check.due("30: no finding", x.status(-1), 0);
    }

    private static void copyFindings() {
        EggReasons x = new EggReasons();
        x.sheet(0, 16, 6);
        x.sheet(1, 16, 3);
        x.sheet(2, 8, 6);
        Check.due("30: sheet 4", x.copy(4, 0, 3, 0, 0), Check.BEYOND);
        Check.due("30: sheet -1", x.copy(3, 0, -1, 0, 0), Check.BEYOND);
        Check.due("30: missing", x.copy(3, -1, 0, 0, 0), Check.MISSING);
        Check.due("30: missing", x.copy(0, 0, 3, 0, -1), Check.MISSING);
        Check.due("30: bits", x.copy(0, -1, 2, 0, 0), Check.KIND);
        Check.due("30: from -1", x.copy(0, -1, 1, 0, 1), Check.BEYOND);
        Check.due("30: to -1", x.copy(0, 0, 1, -1, 1), Check.BEYOND);
        Check.due("30: n -1", x.copy(0, 1, 1, 1, -1), Check.BEYOND);
        Check.due("30: not so many to take", x.copy(0, 5, 1, 0, 2), Check.BEYOND);
        Check.due("30: not so many to fill", x.copy(0, 0, 1, 2, 2), Check.BEYOND);
        Check.due("30: none from too far", x.copy(0, 7, 1, 0, 0), Check.BEYOND);
        Check.due("30: none to too far", x.copy(0, 0, 1, 4, 0), Check.BEYOND);
        int most = Integer.MAX_VALUE;
        Check.due("30: no wrap-around", x.copy(0, most, 1, most, most), Check.BEYOND);
        Check.due("30: no wrap-around", x.copy(0, 1, 1, 1, most), Check.BEYOND);
        Check.due("30: no wrap-around", x.copy(0, most, 1, 0, 1), Check.BEYOND);
        Check.due("30: findings", x.status(-1), 15);
        Check.due("30: KIND is counted", x.status(2), 1);
        Check.due("30: MISSING is counted", x.status(5), 2);
    }

    private static void lays() {
        EggReasons x = Check.houseOf(0, 0, 0, 0, 0);
        x.sheet(0, 64, 4);
        row(x, 0, 99, 100, -1, 0);
        Check.due("31: two came", x.lays(0), 2);
        int[] want = {99, 5, 5, 0, 5};
        for (int i = 0; i < 5; i++) Check.due("31: reason of " + i, x.of(i, 2), want[i]);
        row(x, 0, 4294967296L, 1, 2, 3);
        Check.due("31: three came", x.lays(0), 3);
        Check.due("31: not its lowest bits", x.of(0, 2), 99);
        x.sheet(0, 8, 8);
        Check.due("31: for five that there are", x.lays(0), 5);
        Check.due("31: all 0", x.count(3), 0);
        x.sheet(0, 8, 0);
        Check.due("31: none", x.lays(0), 0);
        Check.due("31: sheet 4", x.lays(4), Check.BEYOND);
        Check.due("31: sheet -1", x.lays(-1), Check.BEYOND);
        Check.due("31: missing", x.lays(1), Check.MISSING);
    }

    private static void book() {
        EggReasons x = Check.houseOf(0, 1, 2, 3, 4, 5);
        String before = Check.told(x);
        x.sheet(0, 16, 40);
        Check.due("32: 40 days", x.book(0), 40);
        long[] want = new long[40];
        for (int n = 0; n < 40; n++) want[n] = x.on(n, 0);
        dueRow("32: eggs", x, 0, want);
        Check.same("32: nothing else changes", Check.told(x), before);
        x.house(0, 200);
        x.sheet(1, 8, 1);
        Check.due("32: 8 bits", x.book(1), 1);
        dueRow("32: their lowest bits", x, 1, -56);
        Check.due("32: sheet 4", x.book(4), Check.BEYOND);
        Check.due("32: sheet -1", x.book(-1), Check.BEYOND);
        Check.due("32: missing", x.book(2), Check.MISSING);
    }

    private static void read() {
        EggReasons x = Check.houseOf(3, 5);
        String before = Check.told(x);
        x.sheet(0, 16, 2);
        // 62 are there on day 0, the leader breaks 15: what the other one broke is 47 less the second number.
        row(x, 0, 50, 44);
        Check.due("33: three broken", x.read(0, 0), 5);
        Check.same("33: nothing changes", Check.told(x), before);
        row(x, 0, 50, 47);
        Check.due("33: none broken", x.read(0, 0), 3);
        row(x, 0, 50, 46);
        Check.due("33: one broken", x.read(0, 0), 5);
        row(x, 0, 50, 35);
        Check.due("33: twelve broken", x.read(0, 0), 6);
        row(x, 0, 49, 35);
        Check.due("33: eggs now count", x.read(0, 0), 0);
        x.sheet(0, 16, 0);
        Check.due("33: no numbers", x.read(0, 1), 126);
        x.sheet(1, 8, 1);
        x.house(0, 200);
        x.book(1);
        Check.due("33: -56 is not 200", x.read(1, 0), 0);
        Check.due("33: sheet 4", x.read(4, 9), Check.BEYOND);
        Check.due("33: sheet -1", x.read(-1, 0), Check.BEYOND);
        Check.due("33: missing ahead of nobody", x.read(2, 9), Check.MISSING);
        Check.due("33: nobody", x.read(0, 2), Check.BEYOND);
        Check.due("33: nobody", x.read(0, -1), Check.BEYOND);
    }

    private static void images() {
        EggReasons x = Check.houseOf(0, 5);
        Check.due("35: nothing is kept", x.undo(), Check.NONE);
        x.set(0, 3, 4);
        x.days(5);
        String first = Check.told(x);
        Check.due("34: image", x.image(), 1);
        x.days(7);
        x.person(4);
        x.house(1, 99);
        x.swap(0, 2);
        Check.due("35: undo", x.undo(), 2);
        Check.same("35: as it was", Check.told(x), first);
        x.days(1);
        String second = Check.told(x);
        Check.due("35: it stays", x.undo(), 2);
        Check.same("35: as it was", Check.told(x), first);
        x.days(1);
        Check.same("35: and goes on as before", Check.told(x), second);
        x.image();
        x.days(3);
        x.person(5);
        x.set(2, 3, 9);
        x.undo();
        Check.same("35: the latest", Check.told(x), second);
        x.person(1);
        Check.due("35: one more is as at first", x.of(2, 3), 0);
        x.undo();
        Check.due("36: tear", x.tear(), 1);
        Check.due("36: nothing to tear", x.tear(), 0);
        Check.due("35: torn", x.undo(), Check.NONE);
        Check.same("35: nothing changes", Check.told(x), second);
        Check.due("35: NONE is counted", x.status(3), 2);
    }

    private static void undoOfSection1Only() {
        EggReasons x = Check.houseOf(0);
        x.sheet(0, 16, 1);
        x.image();
        x.feed(1, 3);
        x.write(0, 0, 9);
        x.sheet(1, 8, 1);
        x.days(0);
        x.undo();
        Check.due("35: the tape stays", x.count(1), 3);
        Check.due("35: sheets stay", x.write(0, 0, 0), 9);
        Check.due("35: sheets stay", x.lays(1), 1);
        Check.due("35: findings stay", x.status(-1), 1);
    }

    private static void count() {
        EggReasons x = Check.houseOf(0, 1, 2);
        x.set(0, 2, 99);
        x.set(1, 3, 9);
        x.set(2, 3, 1);
        x.feed(1, 2);
        int[] want = {3, 2, 2, 109};
        for (int what = 0; what < 4; what++) Check.due("37: what " + what, x.count(what), want[what]);
        for (int i = 3; i < 8; i++) x.person(0);
        Check.due("37: reasons of eight", x.count(3), 134);
        Check.due("37: watched of eight", x.count(2), 2);
        Check.due("37: what 4", x.count(4), Check.BEYOND);
        Check.due("37: what -1", x.count(-1), Check.BEYOND);
    }

    private static void status() {
        EggReasons x = Check.houseOf(0, 0, 0, 0, 0, 0, 0, 0);
        for (int which = -1; which <= 6; which++) Check.due("38: none yet", x.status(which), 0);
        x.now(9);
        x.person(0);
        x.person(0);
        for (int i = 0; i < 3; i++) x.as(0, 5);
        for (int i = 0; i < 4; i++) x.undo();
        for (int i = 0; i < 5; i++) x.breaks(0, 99);
        for (int i = 0; i < 6; i++) x.write(0, 0, 0);
        for (int i = 0; i < 7; i++) x.sheet(0, 8, -1);
        for (int which = 0; which <= 6; which++) Check.due("38: " + which, x.status(which), which + 1);
        Check.due("38: all", x.status(-1), 28);
        Check.due("38: 7", x.status(7), Check.BEYOND);
        Check.due("38: -2", x.status(-2), Check.BEYOND);
        Check.due("38: these are counted", x.status(0), 3);
        Check.due("38: all", x.status(-1), 30);
    }

    /** Every call that can answer BEYOND is counted when it does. */
    private static void statusOfAll() {
        EggReasons x = new EggReasons();
        long[] answers = {x.house(9, 0), x.now(9), x.person(9), x.of(9, 0), x.says(9, 0, 0), x.set(9, 0, 0),
            x.turn(9, 0), x.as(9, 0), x.swap(9, 9), x.breaks(9, 1), x.days(0), x.on(-1, 0), x.then(9, 0, 0),
            x.comes(-1), x.watched(9), x.turns(0), x.reason(9, 0, 0), x.enough(0), x.kind(9, 0), x.needs(9, 0),
            x.keep(0), x.most(-1), x.feed(0, 0), x.sheet(9, 0, 0), x.write(9, 0, 0), x.copy(9, 0, 0, 0, 0),
            x.lays(9), x.book(9), x.read(9, 0), x.count(9), x.status(9)};
        for (int i = 0; i < answers.length; i++) Check.due("38: answer " + i, answers[i], Check.BEYOND);
        Check.due("38: all are counted", x.status(0), answers.length);
        Check.due("38: and no others", x.status(-1), answers.length);
    }
}
