/** Promises 25 to 27 at the edges of what may be. */
public final class EdgeTextTest {
    private static final int TAPE = 120;

    public static void main(String[] args) {
        feed();
        feedFull();
        feedBytes();
        wipe();
        words();
        everyByte();
        numbers();
        longTexts();
        tooEarly();
        places();
        ninth();
        blanks();
        nothingChanges();
        Check.end();
    }

    /** An object whose tape has so many blanks. */
    private static EggReasons blank(int bytes) {
        EggReasons x = Edge.full();
        x.wipe();
        for (int left = bytes; left > 0; left -= 4) x.feed(0x20202020, Math.min(left, 4));
        return x;
    }

    private static void feed() {
        Edge e = new Edge("25", Edge::full);
        Check.due("25: bytes", e.done("1 byte", x -> x.feed(0x3b, 1), 19).count(1), 19);
        Check.due("25: bytes", e.done("4 bytes", x -> x.feed(0x3b3b3b3b, 4), 22).count(1), 22);
        e.outside("n", 1, 4, (x, n) -> x.feed(0x20202020, n));
        Edge none = new Edge("25", EggReasons::new);
        for (int n = 1; n <= 4; n++) {
            int bytes = n;
            none.done("the first " + n, x -> x.feed(0, bytes), n);
        }
        none.outside("n", 1, 4, (x, n) -> x.feed(0, n));
    }

    private static void feedFull() {
        for (int n = 1; n <= 4; n++) {
            int bytes = n;
            Edge just = new Edge("25", () -> blank(TAPE - bytes));
            Check.due("25: all", just.done("the last " + n, x -> x.feed(0x20202020, bytes), TAPE).wipe(), TAPE);
            new Edge("25", () -> blank(TAPE - bytes + 1)).refused(n + " are one too many", Check.FULL, x -> x.feed(-1, bytes));
            Edge full = new Edge("25", () -> blank(TAPE));
            full.refused(n + " more than all", Check.FULL, x -> x.feed(-1, bytes));
            full.outside("n ahead of FULL", 1, 4, (x, m) -> x.feed(0, m));
        }
    }

    /** Only the n lowest bytes come, the highest of these first, whatever the number's sign. */
    private static void feedBytes() {
        int boy = 0x626f79;
        int[] highest = {0, 0x20, 0x7f, 0x80, 0xff};
        for (int high : highest) {
            EggReasons x = new EggReasons();
            x.feed(high << 24 | boy, 3);
            Check.due("25: three of " + high, x.text(), 1);
            x.feed(high << 24 | 0xff6c6f, 1);
            Check.due("25: one of " + high, x.text(), -1);
            x.feed(high << 24 | boy, 4);
            Check.due("25: four of " + high, x.text(), high == 0x20 ? 1 : -1);
            x.feed(boy >> 8, 2);
            x.feed(high << 8 | 0x79, 1);
            Check.due("25: two and one of " + high, x.text(), 1);
        }
        EggReasons x = new EggReasons();
        x.feed(0x626f, 2);
        x.feed(Integer.MIN_VALUE + 0x79, 1);
        Check.due("25: one of the least number there is", x.text(), 1);
        x.feed(Integer.MIN_VALUE, 4);
        Check.due("25: byte 128", x.text(), -1);
    }

    private static void wipe() {
        int[] counts = {0, 1, 119, 120};
        for (int bytes : counts) {
            Edge e = new Edge("26", () -> blank(bytes));
            EggReasons x = e.done("of " + bytes, y -> y.wipe(), bytes);
            Check.due("26: empty", x.count(1), 0);
            Check.due("26: empty", x.wipe(), 0);
            Check.due("26: room for the first", x.feed(1, 1), 1);
        }
        new Edge("26", () -> blank(0)).asked("nothing to wipe", x -> x.wipe(), 0);
    }

    /** Each byte alone, behind a name and behind a number: which of them are letters, digits, the sign, blanks. */
    private static void everyByte() {
        for (int b = 0; b < 256; b++) {
            boolean isLetter = b >= 97 && b <= 122;
            boolean isDigit = b >= 48 && b <= 57;
            Check.due("27: byte " + b, read("", b, ""), b == 32 ? -2 : -1);
            int behindName = b == 32 ? 1 : b == 59 ? -6 : isLetter ? -1 : -5;
            Check.due("27: cook and byte " + b, read("cook", b, ""), behindName);
            int behindNumber = b == 32 || isDigit ? 1 : b == 59 ? -8 : -7;
            Check.due("27: eggs 1 and byte " + b, read("eggs 1", b, ""), behindNumber);
            int between = isLetter ? -1 : b == 32 || isDigit ? 1 : -5;
            Check.due("27: eggs, byte " + b + ", 1", read("eggs", b, "1"), between);
            int betweenItems = b == 59 ? 2 : isLetter ? -1 : b == 32 ? -6 : -5;
            Check.due("27: cook, byte " + b + ", boy", read("cook", b, "boy"), betweenItems);
        }
    }

    /** Each word just as it is, one letter short at either end, one letter more, and one letter off. */
    private static void words() {
        String[] words = {"cook", "boy", "rebel", "poacher", "pupil", "leader", "eggs", "laid", "needs", "reason", "watched"};
        for (int i = 0; i < words.length; i++) {
            String ahead = i < 8 ? "" : "cook ";
            String behind = i < 6 ? "" : " 1";
            EggReasons x = new EggReasons();
            Check.feed(x, ahead + words[i] + behind);
            Check.due("27: " + words[i], x.text(), 1);
            if (i < 6) Check.due("27: KIND of " + words[i], x.of(0, 0), i);
            int fault = -1 - ahead.length();
            for (int at = 0; at < words[i].length(); at++) {
                String off = words[i].substring(0, at) + 'z' + words[i].substring(at + 1);
                Check.due("27: " + off, read(ahead + off + behind), fault);
            }
            String[] others = {words[i].substring(1), words[i].substring(0, words[i].length() - 1), words[i] + "s", "a" + words[i],
                words[i] + words[i]};
            for (String other : others) Check.due("27: " + other, read(ahead + other + behind), fault);
            Check.due("27: in capitals, " + words[i], read(ahead + words[i].toUpperCase(java.util.Locale.ROOT) + behind), fault);
        }
    }

    private static int read(String before, int b, String behind) {
        EggReasons x = new EggReasons();
        Check.feed(x, before);
        x.feed(b, 1);
        for (int i = 0; i < behind.length(); i++) x.feed(behind.charAt(i), 1);
        int answer = x.text();
        Check.due("27: no finding", x.status(-1), 0);
        Check.due("27: the tape is empty", x.count(1), 0);
        return answer;
    }

    private static int read(String text) {
        EggReasons x = new EggReasons();
        Check.feed(x, text);
        int answer = x.text();
        Check.due("27: no finding", x.status(-1), 0);
        Check.due("27: the tape is empty", x.count(1), 0);
        if (answer < 0) Check.same("27: as it was", Check.told(x), Check.told(new EggReasons()));
        return answer;
    }

    private static void numbers() {
        String[] words = {"cook needs ", "cook reason ", "cook watched ", "eggs ", "laid "};
        int[] most = {20, 99, 99, 999, 99};
        for (int i = 0; i < words.length; i++) {
            EggReasons x = new EggReasons();
            Check.feed(x, words[i] + most[i]);
            Check.due("27: " + words[i] + "at the most", x.text(), 1);
            Check.due("27: " + words[i] + "at the most", i < 3 ? x.of(0, i + 1) : x.now(i - 2), most[i]);
            EggReasons y = new EggReasons();
            Check.feed(y, words[i] + 0);
            Check.due("27: " + words[i] + "at the least", y.text(), 1);
            Check.due("27: " + words[i] + "at the least", i < 3 ? y.of(0, i + 1) : y.now(i - 2), 0);
            int place = -1 - words[i].length();
            String[] above = {"" + (most[i] + 1), "999", "1000", "9999", "2147483648", "4294967296", "4294967301",
                "9223372036854775808", "18446744073709551616", "18446744073709551621", "00000" + (most[i] + 1)};
            for (String number : above) {
                boolean isIn = number.equals("999") && most[i] == 999;
                Check.due("27: " + words[i] + number, read(words[i] + number), isIn ? 1 : place);
            }
            Check.due("27: " + words[i] + "with zeros ahead", read(words[i] + "0000000000" + most[i]), 1);
            Check.due("27: " + words[i] + "no number", read(words[i]), place);
            Check.due("27: " + words[i] + "a sign", read(words[i] + ";"), place);
            Check.due("27: " + words[i] + "a word", read(words[i] + "cook"), place);
            Check.due("27: " + words[i] + "below 0", read(words[i] + "-1"), place);
            Check.due("27: " + words[i] + "two numbers", read(words[i] + "1 1"), place - 2);
        }
    }

    private static String times(int n, String item) {
        return item.repeat(n);
    }

    /** Texts of just 120 bytes. */
    private static void longTexts() {
        Check.due("27: 17 items", read(times(16, "eggs 1;") + "eggs 999"), 17);
        Check.due("27: the last byte is a sign", read(times(16, "eggs 1;") + "eggs 99;"), -121);
        Check.due("27: a sign too many", read(times(17, "eggs 1;") + ";"), -120);
        Check.due("27: a number that may not be", read(times(16, "eggs 1;") + "laid 100"), -118);
        Check.due("27: a byte of no token", read(times(17, "eggs 1;") + "~"), -120);
        Check.due("27: as many items as there can be", read(times(19, "eggs1;") + "laid12"), 20);
        Check.due("27: one word", read(times(120, "a")), -1);
        Check.due("27: one number", read("eggs " + times(115, "9")), -6);
        Check.due("27: one number", read("eggs " + times(114, "0") + "7"), 1);
        Check.due("27: blanks ahead", read(times(117, " ") + "boy"), 1);
        Check.due("27: blanks behind", read("boy" + times(117, " ")), 1);
        Check.due("27: the last byte is a word", read(times(119, " ") + "a"), -120);
        Check.due("27: blanks alone", read(times(120, " ")), -121);
        Check.due("27: a blank less", read(times(119, " ")), -120);
        EggReasons x = new EggReasons();
        Check.feed(x, times(16, "eggs 1;") + "eggs 999");
        Check.due("27: full", x.feed(0x20, 1), Check.FULL);
        Check.due("27: read all the same", x.text(), 17);
        Check.due("27: to the last byte", x.now(1), 999);
        Check.due("27: room again", x.feed(0x20202020, 4), 4);
    }

    /** However it ends too early, the place is that behind the last byte; a word cut short is another word. */
    private static void tooEarly() {
        String[] early = {"", " ", "cook;", "cook; ", "cook needs", "cook needs ", "cook reason", "cook watched",
            "cook needs 1 reason", "cook needs 1 reason  ", "cook needs 1 reason 2 watched", "cook reason 2 watched ", "cook needs 1;",
            "cook watched 3;", "eggs", "eggs ", "laid", "laid   ", "eggs 4;", "eggs 4;laid", "eggs 4;laid 5;", "eggs 4;laid 5; "};
        for (String text : early) Check.due("27: too early: " + text, read(text), -1 - text.length());
        String[] whole = {"cook", "cook ", "cook needs 1", "cook needs 1 reason 2", "cook needs 1 reason 2 watched 3", "cook reason 2",
            "cook watched 3", "cook needs 1 watched 3 ", "cook reason 2 watched 3", "eggs 4", "laid 5 "};
        for (String text : whole) Check.due("27: just whole: " + text, read(text), 1);
        String[] cut = {"coo", "cook;bo", "cook need", "cook needs 1 reaso", "cook needs 1 reason 2 watche", "egg", "eggs 4;lai"};
        int[] places = {0, 5, 5, 13, 22, 0, 7};
        for (int i = 0; i < cut.length; i++) Check.due("27: cut short: " + cut[i], read(cut[i]), -1 - places[i]);
    }

    private static void places() {
        Check.due("27: the first", read("x"), -1);
        Check.due("27: behind a blank", read(" x"), -2);
        Check.due("27: of a word of the second item", read("cook;cooks"), -6);
        Check.due("27: needs at the wrong place", read("cook reason 1 needs 1"), -15);
        Check.due("27: reason at the wrong place", read("cook watched 1 reason 1"), -16);
        Check.due("27: twice", read("cook watched 1 watched 1"), -16);
        Check.due("27: needs of eggs", read("eggs 5 needs 1"), -8);
        Check.due("27: a name in place of a sign", read("eggs 5 cook"), -8);
        Check.due("27: laid in place of a sign", read("eggs 5laid 5"), -7);
        Check.due("27: only the first fault", read("cook 5;hen;~"), -6);
        Check.due("27: a byte of no token behind a fault", read("hen ~"), -1);
        Check.due("27: a word that ends in another sign", read("cook needs 1reason 1Watched 1"), -21);
    }

    private static EggReasons people(int count) {
        EggReasons x = new EggReasons();
        for (int person = 0; person < count; person++) x.person(person % 6);
        return x;
    }

    private static void ninth() {
        for (int there = 0; there <= 8; there++) {
            EggReasons x = people(there);
            int room = 8 - there;
            Check.feed(x, times(room, "boy;") + "eggs 1");
            Check.due("27: all that there is room for, behind " + there, x.text(), room + 1);
            Check.due("27: eight", x.count(0), 8);
            EggReasons y = people(there);
            Check.feed(y, times(room, "boy;") + " boy needs 1");
            Check.due("27: one more, behind " + there, y.text(), -1 - 4 * room - 1);
            Check.due("27: nobody came", y.count(0), there);
            Check.due("27: no finding", y.status(-1), 0);
        }
        EggReasons x = people(8);
        Check.feed(x, "boy needs 21");
        Check.due("27: its own place, not the number's", x.text(), -1);
        Check.feed(x, "eggs 7;laid 0");
        Check.due("27: eggs for eight", x.text(), 2);
        Check.due("27: eggs", x.now(1), 7);
        Check.due("27: laid", x.now(2), 0);
    }

    private static void blanks() {
        Check.due("27: none", read("cook needs1reason2watched3;eggs4;laid5"), 3);
        Check.due("27: many", read("  cook  needs  1  reason  2  watched  3  ;  eggs  4  ;  laid  5  "), 3);
        Check.due("27: within a word", read("co ok"), -1);
        Check.due("27: within a number", read("eggs 1 0"), -8);
        Check.due("27: a word that goes on", read("cookneeds 1"), -1);
        Check.due("27: a word that goes on", read("cook needsreason 1"), -6);
    }

    /** With a fault nothing changes but that the tape is empty, in a house with something of all there can be. */
    private static void nothingChanges() {
        String[] faults = {"", ";", "cook needs 21", "eggs 3;laid 4;boy;boy needs 20 reason 100", "boy;boy;boy;boy;boy;boy", "eggs 1;~"};
        int[] places = {0, 0, 11, 38, 20, 7};
        for (int i = 0; i < faults.length; i++) {
            String text = faults[i];
            EggReasons x = Edge.full();
            x.wipe();
            Check.feed(x, text);
            Check.due("27: " + text, x.text(), -1 - places[i]);
            Check.due("27: the tape is empty", x.wipe(), 0);
            EggReasons like = Edge.full();
            Check.same("27: nothing changes by " + text, Check.told(x), Check.told(like));
            for (int which = -1; which <= 6; which++) Check.due("27: status", x.status(which), like.status(which));
            Check.due("27: the image stays", x.undo(), like.undo());
            Check.same("27: the image stays", Check.told(x), Check.told(like));
            Check.due("27: sheets stay", x.write(0, 0, 0), 300);
        }
        EggReasons x = Edge.full();
        Check.due("27: all of it", x.text(), 2);
        Check.due("27: the boy's need", x.of(3, 1), 7);
        Check.due("27: laid", x.now(2), 8);
        Check.due("27: nothing is left", x.text(), -1);
    }
}
