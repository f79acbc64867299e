/** Promises 25 to 27: the tape and its text. */
public final class TextTest {
    public static void main(String[] args) {
        feed();
        wipe();
        items();
        faults();
        tooEarly();
        theNinth();
        itemsInTurn();
        Check.end();
    }

    private static void feed() {
        EggReasons x = new EggReasons();
        Check.due("25: n 0", x.feed(1, 0), Check.BEYOND);
        Check.due("25: n 5", x.feed(1, 5), Check.BEYOND);
        Check.due("25: n -1", x.feed(1, -1), Check.BEYOND);
        Check.due("25: the highest first", x.feed(0x626f7920, 4), 4);
        Check.due("25: only the lowest", x.feed(0x7f2e2020, 2), 6);
        Check.due("25: text", x.text(), 1);
        Check.due("25: a boy", x.of(0, 0), 1);
        x.feed(0xff626f79, 3);
        Check.due("25: three bytes", x.text(), 1);
        x.feed(0xffffffff, 4);
        Check.due("25: bytes above 127", x.text(), -1);
        for (int i = 1; i <= 29; i++) Check.due("25: four more", x.feed(0x20202020, 4), 4 * i);
        Check.due("25: three more", x.feed(0x20202020, 3), 119);
        Check.due("25: not two", x.feed(0x20202020, 2), Check.FULL);
        Check.due("25: BEYOND ahead of FULL", x.feed(0x20202020, 5), Check.BEYOND);
        Check.due("25: stays", x.count(1), 119);
        Check.due("25: but one", x.feed(0x20202020, 1), 120);
        Check.due("25: no more", x.feed(0x20202020, 1), Check.FULL);
        Check.due("25: read to its end", x.text(), -121);
        Check.due("25: empty then", x.count(1), 0);
    }

    private static void wipe() {
        EggReasons x = new EggReasons();
        Check.due("26: empty", x.wipe(), 0);
        x.feed(0x626f7920, 4);
        x.feed(0x626f7920, 3);
        Check.due("26: seven", x.wipe(), 7);
        Check.due("26: empty then", x.count(1), 0);
        Check.due("26: empty then", x.wipe(), 0);
        x.feed(0x626f7920, 4);
        Check.due("26: nothing left of it", x.text(), 1);
    }

    private static void items() {
        EggReasons x = new EggReasons();
        text(x, "cook;boy;rebel;poacher;pupil;leader", 6);
        for (int i = 0; i < 6; i++) {
            Check.due("27: kind", x.of(i, 0), i);
            Check.due("27: need", x.of(i, 1), 3);
            Check.due("27: reason", x.of(i, 2), 5);
            Check.due("27: watched", x.of(i, 3), 0);
            Check.due("27: broke", x.of(i, 4), 0);
        }
        text(x, "eggs 999", 1);
        Check.due("27: eggs", x.now(1), 999);
        text(x, "eggs 0", 1);
        Check.due("27: no eggs", x.now(1), 0);
        text(x, "laid99;eggs7;laid 98", 3);
        Check.due("27: eggs", x.now(1), 7);
        Check.due("27: laid", x.now(2), 98);
        text(x, " boy needs 20  reason 99 watched 99 ; cook watched 1 ", 2);
        Check.same("27: told", Check.told(x), "0 7 98 0 0 192 0 people 8 | 0 3 5 0 0 | 1 3 5 0 0 | 2 3 5 0 0"
            + " | 3 3 5 0 0 | 4 3 5 0 0 | 5 3 5 0 0 | 1 20 99 99 0 | 0 3 5 1 0");
        EggReasons y = new EggReasons();
        text(y, "cook reason0needs", -1 - 12);
        text(y, "cook reason0watched000000005;boy needs 1 watched 2", 2);
        Check.same("27: told", Check.told(y), "0 50 12 0 0 3 0 people 2 | 0 3 0 5 0 | 1 1 5 2 0");
        Check.due("27: no findings", x.status(-1) + y.status(-1), 0);
    }

    private static void faults() {
        fault("Cook", 0);
        fault("hen", 0);
        fault("cooks", 0);
        fault("coo", 0);
        fault("cook boy", 5);
        fault("7", 0);
        fault(";", 0);
        fault(";cook", 0);
        fault("cook;;cook", 5);
        fault("cook,boy", 4);
        fault("cook~", 4);
        fault("cook\tneeds 1", 4);
        fault("coOk", 0);
        fault("needs 3", 0);
        fault("eggs eggs", 5);
        fault("eggs;", 4);
        fault("eggs 1000", 5);
        fault("eggs 999999999999999999999999999", 5);
        fault("eggs 4294967297", 5);
        fault("eggs 1 2", 7);
        fault("laid 100", 5);
        fault("laid -1", 5);
        fault("cook 3", 5);
        fault("cook needs 21", 11);
        fault("cook needs reason 1", 11);
        fault("cook reason 100", 12);
        fault("cook watched 100", 13);
        fault("cook watched 1 reason 1", 15);
        fault("cook reason 1 needs 1", 14);
        fault("cook needs 1 needs 1", 13);
        fault("eggs 5; laid 5; cook; hen", 22);
        fault("cook eggs 5", 5);
        fault("reason", 0);
        fault("cook need 3", 5);
        fault("cookz", 0);
        fault("acook", 0);
        fault("look", 0);
        fault("toy", 0);
        fault("begs 1", 0);
        fault("paid 1", 0);
        fault("cook seeds 1", 5);
        fault("eggs 1:", 6);
        fault("eggs 1/", 6);
        fault("eggs /", 5);
        fault("cook{", 4);
        fault("`cook", 0);
        fault("cook\0", 4);
        fault("\0", 0);
        fault("cook\n;boy", 4);
        fault("cook\u00a0", 4);
        fault("cook\u00ff", 4);
        fault("c\u00e9", 0);
    }

    private static void tooEarly() {
        fault("", 0);
        fault("   ", 3);
        fault("eggs", 4);
        fault("eggs  ", 6);
        fault("laid", 4);
        fault("cook;", 5);
        fault("cook ; ", 7);
        fault("cook needs", 10);
        fault("cook needs 1 reason", 19);
        fault("cook needs 1 reason 1 watched ", 30);
    }

    private static void theNinth() {
        EggReasons x = new EggReasons();
        text(x, "boy;boy;boy;boy;boy;boy;boy; boy;boy", -1 - 33);
        Check.due("27: nobody came", x.count(0), 0);
        text(x, "boy;boy;boy;boy;boy;boy;boy;boy;eggs 3", 9);
        text(x, "eggs 4;cook needs 21", -1 - 7);
        Check.due("27: eggs stay", x.now(1), 3);
        text(x, "eggs 5", 1);
        Check.due("27: eggs", x.now(1), 5);
    }

    private static void itemsInTurn() {
        EggReasons x = Check.houseOf(5);
        x.days(3);
        x.house(2, 77);
        x.image();
        text(x, "pupil", 1);
        Check.due("27: behind those who are there", x.of(1, 0), 4);
        Check.due("27: COLUMN stays", x.now(3), 77);
        Check.due("27: DAY stays", x.now(0), 3);
        Check.due("27: the image stays", x.undo(), 1);
    }

    private static void fault(String text, int place) {
        EggReasons x = Check.houseOf(2);
        String before = Check.told(x);
        text(x, text, -1 - place);
        Check.same("27: nothing changes by " + text, Check.told(x), before);
        Check.due("27: no finding", x.status(-1), 0);
    }

    private static void text(EggReasons x, String text, int want) {
        Check.feed(x, text);
        Check.due("27: text " + text, x.text(), want);
        Check.due("27: empty after " + text, x.count(1), 0);
    }
}
