/** Promises 28 to 33 at the edges of what may be. */
public final class EdgeSheetsTest {
    private static final int FAR = Integer.MAX_VALUE;
    private static final int[] BITS = {8, 16, 64};

    public static void main(String[] args) {
        sheet();
        sheetFindings();
        write();
        writeWraps();
        copy();
        copyRuns();
        copyWithin();
        lays();
        laysNumbers();
        book();
        bookWraps();
        read();
        readNumbers();
        Check.end();
    }

    /** Sheets of 40 numbers, of 16, 16 and 8 bits, and one of no number. */
    private static EggReasons large() {
        EggReasons x = Check.houseOf(0, 1);
        int[] bits = {16, 16, 8};
        for (int s = 0; s < 3; s++) {
            x.sheet(s, bits[s], 40);
            for (int i = 0; i < 40; i++) x.write(s, i, 40 * s + i);
        }
        x.sheet(3, 16, 0);
        return x;
    }

    private static void sheet() {
        Edge e = new Edge("28", Edge::full);
        int[] sizes = {0, 1, 39, 40};
        for (int bits : BITS) {
            for (int n : sizes) {
                for (int s = 0; s < 4; s += 3) {
                    int sheet = s;
                    EggReasons x = e.done(n + " of " + bits + " bits", y -> y.sheet(sheet, bits, n), n);
                    for (int i = 0; i < n; i++) Check.due("28: number " + i, x.write(sheet, i, 7), 0);
                    Check.due("28: no number " + n, x.write(sheet, n, 7), Check.BEYOND);
                    Check.due("28: the one beside it", x.write(1, 0, 1), 99);
                    Check.due("28: anew", x.sheet(sheet, bits, n), n);
                    for (int i = 0; i < n; i++) Check.due("28: 0 again", x.write(sheet, i, 7), 0);
                }
            }
        }
        for (int n : sizes) {
            EggReasons x = e.done("bits 0 and " + n, y -> y.sheet(0, 0, n), 0);
            Check.due("28: missing", x.write(0, 0, 1), Check.MISSING);
            Check.due("28: missing", x.book(0), Check.MISSING);
        }
        e.asked("one that is missing anyway", x -> x.sheet(3, 0, 40), 0);
    }

    private static void sheetFindings() {
        Edge e = new Edge("28", Edge::full);
        e.outside("s", 0, 3, (x, s) -> x.sheet(s, 16, 3));
        e.outside("s, bits 0", 0, 3, (x, s) -> x.sheet(s, 0, 0));
        e.outside("s ahead of SIZE", 0, 3, (x, s) -> x.sheet(s, 16, -1));
        int[] others = {1, 7, 9, 15, 17, 24, 32, 63, 65, 128, -1, -8, -16, -64, Integer.MIN_VALUE, FAR};
        for (int bits : others) {
            e.refused(bits + " bits", Check.BEYOND, x -> x.sheet(0, bits, 3));
            e.refused(bits + " bits ahead of SIZE", Check.BEYOND, x -> x.sheet(0, bits, -1));
        }
        int[] all = {0, 8, 16, 64};
        for (int bits : all) {
            e.refused("-1 of " + bits + " bits", Check.SIZE, x -> x.sheet(0, bits, -1));
            e.refused("the least there can be of " + bits + " bits", Check.SIZE, x -> x.sheet(0, bits, Integer.MIN_VALUE));
            e.refused("41 of " + bits + " bits", Check.BEYOND, x -> x.sheet(0, bits, 41));
            e.refused("the most there can be of " + bits + " bits", Check.BEYOND, x -> x.sheet(0, bits, FAR));
            e.refused("-1 for one that is missing", Check.SIZE, x -> x.sheet(3, bits, -1));
            e.refused("41 for one that is missing", Check.BEYOND, x -> x.sheet(3, bits, 41));
        }
    }

    private static void write() {
        Edge e = new Edge("29", Edge::full);
        Check.due("29: the first", e.done("number 0", x -> x.write(0, 0, 5), 300).write(0, 0, 0), 5);
        Check.due("29: the last", e.done("number 3", x -> x.write(0, 3, 5), 0).write(0, 3, 0), 5);
        e.done("a long number", x -> x.write(2, 0, 1), Long.MIN_VALUE);
        e.outside("s", 0, 3, (x, s) -> x.write(s, 0, 1));
        e.outside("s ahead of no such number", 0, 3, (x, s) -> x.write(s, -1, 1));
        int[] sizes = {4, 3, 2};
        for (int s = 0; s < 3; s++) {
            int sheet = s;
            e.outside("i of " + s, 0, sizes[s] - 1, (x, i) -> x.write(sheet, i, 1));
        }
        int[] numbers = {-1, 0, 39, 40, Integer.MIN_VALUE, FAR};
        for (int i : numbers) e.refused("number " + i + " of one that is missing", Check.MISSING, x -> x.write(3, i, 1));
        Edge large = new Edge("29", EdgeSheetsTest::large);
        large.done("number 39", x -> x.write(2, 39, 1), 119);
        large.outside("i of 40", 0, 39, (x, i) -> x.write(0, i, 1));
        large.refused("number 0 of none", Check.BEYOND, x -> x.write(3, 0, 1));
        large.refused("number -1 of none", Check.BEYOND, x -> x.write(3, -1, 1));
    }

    private static void writeWraps() {
        long[][] rows = {{8, 127, 127}, {8, 128, -128}, {8, -128, -128}, {8, -129, 127}, {8, 255, -1}, {8, 256, 0}, {8, 257, 1},
            {8, Long.MAX_VALUE, -1}, {8, Long.MIN_VALUE, 0}, {16, 32767, 32767}, {16, 32768, -32768}, {16, -32768, -32768},
            {16, -32769, 32767}, {16, 65535, -1}, {16, 65536, 0}, {16, 128, 128}, {16, Long.MAX_VALUE, -1},
            {16, Long.MIN_VALUE, 0}, {64, Long.MAX_VALUE, Long.MAX_VALUE}, {64, Long.MIN_VALUE, Long.MIN_VALUE},
            {64, 4294967296L, 4294967296L}, {64, -1, -1}, {64, -1000000001L, -1000000001L}, {64, -1000000006L, -1000000006L}};
        for (long[] row : rows) {
            EggReasons x = new EggReasons();
            x.sheet(1, (int) row[0], 1);
            Check.due("29: was 0", x.write(1, 0, row[1]), 0);
            Check.due("29: " + row[1] + " in " + row[0] + " bits", x.write(1, 0, 0), row[2]);
            Check.due("29: 0 then", x.write(1, 0, 0), 0);
            Check.due("29: a number that looks so is no finding", x.status(-1), 0);
        }
    }

    private static void copy() {
        Edge e = new Edge("30", Edge::full);
        e.outside("s", 0, 3, (x, s) -> x.copy(s, 0, 0, 0, 1));
        e.outside("t", 0, 3, (x, t) -> x.copy(0, 0, t, 0, 1));
        e.outside("s, t being missing", 0, 3, (x, s) -> x.copy(s, 0, 3, 0, 1));
        e.outside("t, s being missing", 0, 3, (x, t) -> x.copy(3, 0, t, 0, 1));
        e.refused("s is missing", Check.MISSING, x -> x.copy(3, 0, 0, 0, 0));
        e.refused("t is missing", Check.MISSING, x -> x.copy(0, 0, 3, 0, 0));
        e.refused("both are missing", Check.MISSING, x -> x.copy(3, 0, 3, 0, 0));
        e.refused("missing ahead of no such numbers", Check.MISSING, x -> x.copy(0, -1, 3, -1, -1));
        for (int s = 0; s < 3; s++) {
            for (int t = 0; t < 3; t++) {
                int from = s;
                int to = t;
                if (s == t) {
                    e.asked("none to itself", x -> x.copy(from, 0, to, 0, 0), 0);
                } else {
                    e.refused("from " + s + " to " + t, Check.KIND, x -> x.copy(from, 0, to, 0, 0));
                    e.refused("KIND ahead of n, from " + s + " to " + t, Check.KIND, x -> x.copy(from, 0, to, 0, -1));
                    e.refused("KIND ahead of from and to", Check.KIND, x -> x.copy(from, -1, to, 99, 1));
                }
            }
        }
    }

    private static void copyRuns() {
        Edge e = new Edge("30", EdgeSheetsTest::large);
        int[][] just = {{0, 0, 40}, {39, 0, 1}, {0, 39, 1}, {39, 39, 1}, {40, 0, 0}, {0, 40, 0}, {40, 40, 0}, {1, 0, 39}, {0, 1, 39}};
        for (int[] run : just) {
            String what = "from " + run[0] + " to " + run[1] + ", " + run[2];
            EggReasons x = e.done(what, y -> y.copy(0, run[0], 1, run[1], run[2]), run[2]);
            for (int i = 0; i < 40; i++) {
                boolean isCopied = i >= run[1] && i < run[1] + run[2];
                Check.due("30: " + what + ", number " + i, x.write(1, i, 0), isCopied ? i - run[1] + run[0] : 40 + i);
                Check.due("30: " + what + ", it stays, " + i, x.write(0, i, 0), i);
            }
        }
        int[][] beyond = {{0, 0, 41}, {40, 0, 1}, {0, 40, 1}, {41, 0, 0}, {0, 41, 0}, {1, 0, 40}, {0, 1, 40}, {-1, 0, 1}, {0, -1, 1},
            {0, 0, -1}, {-1, 0, 0}, {0, -1, 0}, {40, 40, -1}, {FAR, 0, 1}, {0, FAR, 1}, {0, 0, FAR}, {1, 1, FAR}, {FAR, FAR, FAR},
            {FAR, FAR, 0}, {Integer.MIN_VALUE, 0, 1}, {0, Integer.MIN_VALUE, 1}, {0, 0, Integer.MIN_VALUE},
            {Integer.MIN_VALUE, Integer.MIN_VALUE, Integer.MIN_VALUE}, {1, 1, Integer.MIN_VALUE}, {FAR, FAR, 2}};
        for (int[] run : beyond) {
            String what = "from " + run[0] + " to " + run[1] + ", " + run[2];
            e.refused(what, Check.BEYOND, x -> x.copy(0, run[0], 1, run[1], run[2]));
            e.refused(what + ", within one", Check.BEYOND, x -> x.copy(0, run[0], 0, run[1], run[2]));
        }
        e.asked("none from none", x -> x.copy(3, 0, 0, 0, 0), 0);
        e.asked("none to none", x -> x.copy(0, 40, 3, 0, 0), 0);
        e.refused("one from none", Check.BEYOND, x -> x.copy(3, 0, 0, 0, 1));
        e.refused("one to none", Check.BEYOND, x -> x.copy(0, 0, 3, 0, 1));
        e.refused("none behind none", Check.BEYOND, x -> x.copy(3, 1, 0, 0, 0));
    }

    /** As they all were, though the one run lies on the other. */
    private static void copyWithin() {
        int[][] runs = {{0, 1, 39}, {1, 0, 39}, {0, 20, 20}, {20, 0, 20}, {0, 0, 40}, {5, 7, 10}, {7, 5, 10}};
        for (int[] run : runs) {
            EggReasons x = large();
            Check.due("30: within", x.copy(0, run[0], 0, run[1], run[2]), run[2]);
            for (int i = 0; i < 40; i++) {
                boolean isCopied = i >= run[1] && i < run[1] + run[2];
                Check.due("30: within, from " + run[0] + " to " + run[1], x.write(0, i, 0), isCopied ? i - run[1] + run[0] : i);
            }
            Check.due("30: the one beside it", x.write(1, 0, 0), 40);
        }
    }

    private static void lays() {
        Edge e = new Edge("31", Edge::full);
        e.done("300, -1, 8 and one for none", x -> x.lays(0), 1);
        e.outside("s", 0, 3, EggReasons::lays);
        e.refused("missing", Check.MISSING, x -> x.lays(3));
        new Edge("31", EggReasons::new).refused("missing, for nobody", Check.MISSING, x -> x.lays(0));
        Edge large = new Edge("31", EdgeSheetsTest::large);
        large.asked("a sheet of none", x -> x.lays(3), 0);
        EggReasons x = large.done("40 for two", y -> y.lays(0), 2);
        Check.due("31: the first", x.of(0, 2), 0);
        Check.due("31: the second", x.of(1, 2), 1);
        new Edge("31", EdgeSheetsTest::forNobody).asked("for nobody", y -> y.lays(0), 0);
        Edge eight = new Edge("31", EdgeSheetsTest::forEight);
        EggReasons z = eight.done("nine for eight", y -> y.lays(0), 8);
        for (int person = 0; person < 8; person++) Check.due("31: reason of " + person, z.of(person, 2), 11 * person);
    }

    private static EggReasons forNobody() {
        EggReasons x = new EggReasons();
        Edge.row(x, 0, 16, 1, 2, 3);
        return x;
    }

    private static EggReasons forEight() {
        EggReasons x = Check.houseOf(0, 1, 2, 3, 4, 5, 0, 1);
        Edge.row(x, 0, 8, 0, 11, 22, 33, 44, 55, 66, 77, 88);
        return x;
    }

    private static void laysNumbers() {
        long[][] rows = {{64, 0, 1}, {64, 1, 1}, {64, 98, 1}, {64, 99, 1}, {64, 100, 0}, {64, -1, 0}, {64, 4294967296L, 0},
            {64, 4294967299L, 0}, {64, -4294967293L, 0}, {64, Long.MIN_VALUE, 0}, {64, Long.MAX_VALUE, 0}, {64, 1L << 63 | 5, 0},
            {16, 99, 1}, {16, 100, 0}, {16, -1, 0}, {16, 65536 + 7, 1}, {8, 99, 1}, {8, 100, 0}, {8, 127, 0}, {8, 128, 0},
            {8, -1, 0}, {8, 256 + 9, 1}};
        for (long[] row : rows) {
            EggReasons x = Check.houseOf(0, 0, 0);
            x.sheet(0, (int) row[0], 3);
            x.write(0, 0, 17);
            x.write(0, 1, row[1]);
            x.write(0, 2, 18);
            String what = "31: " + row[1] + " in " + row[0] + " bits";
            Check.due(what, x.lays(0), 2 + row[2]);
            Check.due(what + ", the one ahead", x.of(0, 2), 17);
            Check.due(what + ", its own", x.of(1, 2), row[2] == 0 ? 5 : row[1] & (1L << row[0] - 1) - 1);
            Check.due(what + ", the one behind", x.of(2, 2), 18);
        }
    }

    private static void book() {
        Edge e = new Edge("32", Edge::full);
        int[] eggs = new int[4];
        for (int n = 0; n < 4; n++) eggs[n] = Edge.full().on(n, 0);
        EggReasons x = e.done("four", y -> y.book(0), 4);
        for (int i = 0; i < 4; i++) Check.due("32: number " + i, x.write(0, i, 0), eggs[i]);
        Check.due("32: the one beside it", x.write(1, 0, 0), 99);
        e.outside("s", 0, 3, EggReasons::book);
        e.refused("missing", Check.MISSING, y -> y.book(3));
        Edge large = new Edge("32", EdgeSheetsTest::large);
        large.asked("none", y -> y.book(3), 0);
        EggReasons z = large.done("40", y -> y.book(1), 40);
        EggReasons like = large();
        for (int i = 0; i < 40; i++) {
            Check.due("32: number " + i, z.write(1, i, 0), like.on(i, 0));
            Check.due("32: the one beside it", z.write(0, i, 0), i);
            Check.due("32: the one beside it", z.write(2, i, 0), 80 + i);
        }
        Check.same("32: nothing else changes", Check.told(z), Check.told(like));
    }

    private static void bookWraps() {
        int[][] rows = {{8, 127, 127}, {8, 128, -128}, {8, 255, -1}, {8, 256, 0}, {8, 999, -25}, {16, 999, 999}, {64, 999, 999}, {8, 0, 0}};
        for (int[] row : rows) {
            EggReasons x = new EggReasons();
            x.house(0, row[1]);
            x.sheet(2, row[0], 1);
            Check.due("32: one", x.book(2), 1);
            Check.due("32: " + row[1] + " in " + row[0] + " bits", x.write(2, 0, 0), row[2]);
        }
        Edge last = new Edge("32", EdgeSheetsTest::onTheLastDay);
        EggReasons x = last.done("from the last DAY on", y -> y.book(0), 3);
        int[] want = {100, 99, 97};
        for (int i = 0; i < 3; i++) Check.due("32: from the last DAY on, " + i, x.write(0, i, 0), want[i]);
    }

    /** A boy on DAY 9999, who wants one then and three on the day after it; by then one more is laid. */
    private static EggReasons onTheLastDay() {
        EggReasons x = Edge.after(9999);
        x.person(1);
        x.house(0, 100);
        x.house(1, 0);
        x.sheet(0, 16, 3);
        return x;
    }

    private static EggReasons withSheet(int bits, long... numbers) {
        EggReasons x = Check.houseOf(0, 0);
        x.house(0, 30);
        x.house(1, 0);
        x.set(1, 1, 0);
        Edge.row(x, 0, bits, numbers);
        x.sheet(1, 16, 0);
        return x;
    }

    private static void read() {
        Edge e = new Edge("33", Edge::full);
        e.outside("s", 0, 3, (x, s) -> x.read(s, 0));
        e.outside("s ahead of nobody", 0, 3, (x, s) -> x.read(s, 3));
        e.outside("person", 0, 2, (x, person) -> x.read(0, person));
        e.refused("missing", Check.MISSING, x -> x.read(3, 0));
        e.refused("missing ahead of nobody", Check.MISSING, x -> x.read(3, 3));
        new Edge("33", EdgeSheetsTest::forNobody).refused("nobody is there", Check.BEYOND, x -> x.read(0, 0));
        new Edge("33", EdgeSheetsTest::forEight).outside("person of eight", 0, 7, (x, person) -> x.read(0, person));
        new Edge("33", EdgeSheetsTest::forEight).asked("the last of eight", x -> x.read(0, 7), 0);
        Edge none = new Edge("33", () -> withSheet(16));
        none.asked("all pairs make no numbers", x -> x.read(0, 0), 126);
        none.asked("all pairs of the last one", x -> x.read(1, 1), 126);
        new Edge("33", EdgeSheetsTest::large).asked("40 that are not so", x -> x.read(0, 1), 0);
    }

    private static void readNumbers() {
        // By so many eggs broken on DAY 0: none by COOK, BOY, REBEL 0; 20 by these of 20 and
        // POACHER and PUPIL 19, LEADER 8; all 30 by LEADER 18 to 20.
        int[][] pairs = {{30, 3}, {29, 5}, {28, 5}, {18, 6}, {10, 6}, {9, 3}, {8, 1}, {1, 1}, {0, 3}};
        for (int[] pair : pairs) {
            new Edge("33", () -> withSheet(16, 30, pair[0])).asked("30 and " + pair[0], x -> x.read(0, 0), pair[1]);
        }
        int[][] first = {{30, 126}, {29, 0}, {31, 0}, {-1, 0}, {0, 0}};
        for (int[] one : first) {
            int[] bits = {8, 16, 64};
            for (int b : bits) new Edge("33", () -> withSheet(b, one[0])).asked("only " + one[0], x -> x.read(0, 0), one[1]);
        }
        new Edge("33", () -> withSheet(64, 30L + (1L << 32))).asked("not by its lowest bits", x -> x.read(0, 0), 0);
        int[][] eggs = {{127, 126}, {128, 0}, {255, 0}, {256, 0}};
        for (int[] row : eggs) {
            EggReasons x = withSheet(8, 0);
            x.house(0, row[0]);
            Check.due("33: one", x.book(0), 1);
            Check.due("33: as the number stands, " + row[0], x.read(0, 0), row[1]);
        }
        EggReasons x = large();
        x.book(0);
        Check.due("33: itself, for 40 days", x.read(0, 0) >= 1 ? 1 : 0, 1);
        x.write(0, 39, x.on(39, 0) + 1);
        Check.due("33: but for the last", x.read(0, 0), 0);
    }
}
