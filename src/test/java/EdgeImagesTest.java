/** Promises 34 to 38 at the edges of what may be. */
public final class EdgeImagesTest {
    public static void main(String[] args) {
        image();
        undo();
        undoOfAll();
        tear();
        count();
        status();
        statusCounts();
        statusStays();
        Check.end();
    }

    private static EggReasons kept() {
        EggReasons x = Edge.fullOfEight();
        x.image();
        return x;
    }

    private static EggReasons torn() {
        EggReasons x = Edge.full();
        x.tear();
        return x;
    }

    private static void image() {
        Edge none = new Edge("34", EggReasons::new);
        Check.due("34: of nobody", none.done("of nobody", x -> x.image(), 1).undo(), 0);
        Edge e = new Edge("34", Edge::full);
        Check.due("34: of three", e.done("of three", x -> x.image(), 1).undo(), 3);
        Edge eight = new Edge("34", Edge::fullOfEight);
        EggReasons x = eight.done("of eight", y -> y.image(), 1);
        Check.same("34: what is there stays", Check.told(x), Check.told(Edge.fullOfEight()));
        new Edge("34", EdgeImagesTest::kept).asked("once more of the same", y -> y.image(), 1);
    }

    private static void undo() {
        new Edge("35", EggReasons::new).refused("nothing is kept", Check.NONE, x -> x.undo());
        new Edge("35", EdgeImagesTest::torn).refused("nothing is kept any more", Check.NONE, x -> x.undo());
        Edge e = new Edge("35", Edge::full);
        EggReasons x = e.done("once", y -> y.undo(), 3);
        Check.due("35: DAY", x.now(0), 2);
        x.days(5);
        Check.due("35: it stays", x.undo(), 3);
        Check.due("35: DAY again", x.now(0), 2);
        EggReasons y = new EggReasons();
        y.image();
        for (int person = 0; person < 8; person++) y.person(person % 6);
        Check.due("35: from eight to nobody", y.undo(), 0);
        Check.due("35: nobody", y.of(0, 0), Check.BEYOND);
        Check.due("35: the first again", y.person(3), 0);
        EggReasons z = kept();
        Check.due("35: eight", z.undo(), 8);
        Check.due("35: a ninth", z.person(0), Check.FULL);
    }

    /** All that section 1 tells becomes what it was, the tape, the sheets and the findings not. */
    private static void undoOfAll() {
        EggReasons x = Edge.fullOfEight();
        x.house(0, 0);
        x.house(1, 0);
        x.days(1);
        x.image();
        String before = Check.told(x);
        int findings = x.status(-1);
        x.days(30);
        x.house(0, 999);
        x.house(1, 99);
        x.house(2, 99999999);
        for (int person = 0; person < 8; person++) {
            x.turn(person, 3);
            for (int what = 1; what <= 4; what++) x.set(person, what, 20);
        }
        x.swap(0, 7);
        x.wipe();
        x.feed(0x626f7920, 4);
        x.write(0, 0, 77);
        x.sheet(3, 8, 2);
        x.now(-1);
        Check.due("35: eight", x.undo(), 8);
        Check.same("35: all is as it was", Check.told(x), before);
        Check.due("35: the tape stays", x.count(1), 4);
        Check.due("35: sheets stay", x.write(0, 0, 0), 77);
        Check.due("35: sheets stay", x.book(3), 2);
        Check.due("35: findings stay", x.status(-1), findings + 1);
        EggReasons last = Edge.after(9999);
        last.image();
        last.person(0);
        Check.due("35: nobody", last.undo(), 0);
        Check.due("35: the last DAY", last.now(0), 9999);
        Check.due("35: no day more", last.days(1), Check.STATE);
    }

    private static void tear() {
        Edge none = new Edge("36", EggReasons::new);
        none.asked("nothing was kept", x -> x.tear(), 0);
        EggReasons x = new Edge("36", Edge::full).done("something was kept", y -> y.tear(), 1);
        Check.due("36: nothing is kept", x.undo(), Check.NONE);
        Check.due("36: nothing more to tear", x.tear(), 0);
        Check.due("36: kept anew", x.image(), 1);
        Check.due("36: torn anew", x.tear(), 1);
        EggReasons y = new EggReasons();
        y.image();
        y.image();
        Check.due("36: two kept, one is the latest", y.tear(), 1);
        Check.due("36: nothing beneath it", y.undo(), Check.NONE);
        Check.due("36: nothing beneath it", y.tear(), 0);
    }

    private static void count() {
        Edge none = new Edge("37", EggReasons::new);
        for (int i = 0; i <= 3; i++) {
            int what = i;
            none.asked("of none, what " + what, x -> x.count(what), 0);
        }
        Edge e = new Edge("37", Edge::full);
        int[] want = {3, 18, 1, 17};
        for (int i = 0; i <= 3; i++) {
            int what = i;
            e.asked("of three, what " + what, x -> x.count(what), want[what]);
        }
        e.outside("what", 0, 3, EggReasons::count);
        Edge most = new Edge("37", EdgeImagesTest::most);
        int[] all = {8, 120, 8, 792};
        for (int i = 0; i <= 3; i++) {
            int what = i;
            most.asked("the most, what " + what, x -> x.count(what), all[what]);
        }
    }

    private static EggReasons most() {
        EggReasons x = Check.houseOf(0, 1, 2, 3, 4, 5, 0, 1);
        for (int person = 0; person < 8; person++) {
            x.set(person, 2, 99);
            x.set(person, 3, person == 0 ? 1 : 99);
        }
        for (int i = 0; i < 30; i++) x.feed(0x20202020, 4);
        return x;
    }

    private static void status() {
        Edge e = new Edge("38", Edge::full);
        int[] want = {2, 0, 3, 1, 4, 5, 6};
        int sum = 0;
        for (int i = 0; i < 7; i++) {
            int which = i;
            e.asked("of " + which, x -> x.status(which), want[which]);
            sum += want[which];
        }
        int all = sum;
        e.asked("all", x -> x.status(-1), all);
        e.outside("which", -1, 6, EggReasons::status);
        new Edge("38", EggReasons::new).outside("which", -1, 6, EggReasons::status);
    }

    /** A finding of status() itself is counted from then on, not in its own answer. */
    private static void statusCounts() {
        EggReasons x = new EggReasons();
        for (int times = 1; times <= 5; times++) {
            Check.due("38: 7", x.status(7), Check.BEYOND);
            Check.due("38: BEYOND", x.status(0), 2 * times - 1);
            Check.due("38: -2", x.status(-2), Check.BEYOND);
            Check.due("38: all", x.status(-1), 2 * times);
        }
        for (int which = 1; which <= 6; which++) Check.due("38: no other", x.status(which), 0);
        EggReasons y = Edge.fullOfEight();
        for (int times = 1; times <= 100; times++) y.person(0);
        Check.due("38: FULL", y.status(1), 100);
        Check.due("38: all", y.status(-1), 121);
    }

    /** Nothing but a finding changes the counts: no undo, no tear, no wipe, no fault of a text, no number that looks so. */
    private static void statusStays() {
        EggReasons x = new EggReasons();
        x.image();
        x.now(7);
        x.undo();
        Check.due("38: undo takes none back", x.status(0), 1);
        x.tear();
        x.wipe();
        Check.due("38: a fault", x.text(), -1);
        x.sheet(0, 64, 1);
        x.write(0, 0, Check.FULL);
        Check.due("38: a number", x.write(0, 0, 0), Check.FULL);
        Check.due("38: still one", x.status(-1), 1);
        Check.due("38: no FULL", x.status(1), 0);
    }
}
