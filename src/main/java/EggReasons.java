/** A house with eggs, hens who lay, people who break some for reasons, and a lady with a column. */
public final class EggReasons {
    private static final int BEYOND = 0;
    private static final int FULL = 1;
    private static final int KIND = 2;
    private static final int NONE = 3;
    private static final int STATE = 4;
    private static final int MISSING = 5;
    private static final int SIZE = 6;
    private static final int FINDINGS = 7;
    private static final int FIRST_FINDING = -1000000001;

    private static final int MOST_DAYS_ON = 100;
    private static final int MOST_DAYS_TRIED = 60;
    private static final int MOST_DAYS_KEPT = 20;

    private final House home = new House();
    private final House kept = new House();
    // What is only tried out goes on in this one, made once so that no call makes another.
    private final House trial = new House();
    private final Tape tape = new Tape();
    private final Sheets sheets = new Sheets();
    private final int[] told = new int[FINDINGS];
    private boolean hasImage = false;

    public EggReasons() {
    }

    // ---- the house

    public int house(int what, int v) {
        int was;
        switch (what) {
            case 0:
                if (!isWithin(v, 0, House.MOST_EGGS)) return tell(BEYOND);
                was = home.eggs;
                home.eggs = v;
                return was;
            case 1:
                if (!isWithin(v, 0, House.MOST_LAID)) return tell(BEYOND);
                was = home.laid;
                home.laid = v;
                return was;
            case 2:
                if (!isWithin(v, 0, House.MOST_COLUMN)) return tell(BEYOND);
                was = home.column;
                home.column = v;
                return was;
            default:
                return tell(BEYOND);
        }
    }

    public int now(int what) {
        switch (what) {
            case 0: return home.day;
            case 1: return home.eggs;
            case 2: return home.laid;
            case 3: return home.column;
            case 4: return home.hungry;
            case 5: return home.watchedSet();
            case 6: return home.brokeTogether();
            default: return tell(BEYOND);
        }
    }

    // ---- people

    public int person(int kind) {
        if (!Kinds.isOne(kind)) return tell(BEYOND);
        if (home.isFull()) return tell(FULL);
        return home.addOne(kind);
    }

    public int of(int person, int what) {
        if (!home.hasOne(person)) return tell(BEYOND);
        switch (what) {
            case 0: return home.kindOf[person];
            case 1: return home.needOf[person];
            case 2: return home.reasonOf[person];
            case 3: return home.watchOf[person];
            case 4: return home.brokeOf[person];
            case 5: return home.wantsOf(person);
            default: return tell(BEYOND);
        }
    }

    public int says(int person, int what, int n) {
        if (!home.hasOne(person)) return tell(BEYOND);
        if (!isWithin(what, 0, 1)) return tell(BEYOND);
        if (!isWithin(n, 0, House.MOST_EGGS)) return tell(BEYOND);
        int entered = Kinds.enters(home.kindOf[person], home.reasonOf[person], n);
        return what == 0 ? entered : Kinds.watchDays(home.kindOf[person], n, entered);
    }

    public int set(int person, int what, int v) {
        if (!home.hasOne(person)) return tell(BEYOND);
        switch (what) {
            case 1:
                return isWithin(v, 0, House.MOST_NEED) ? put(home.needOf, person, v) : tell(BEYOND);
            case 2:
                return isWithin(v, 0, House.MOST_REASON) ? put(home.reasonOf, person, v) : tell(BEYOND);
            case 3:
                return isWithin(v, 0, House.MOST_WATCHED) ? put(home.watchOf, person, v) : tell(BEYOND);
            case 4:
                return isWithin(v, 0, House.MOST_BROKE) ? put(home.brokeOf, person, v) : tell(BEYOND);
            default:
                return tell(BEYOND);
        }
    }

    public int turn(int person, int kind) {
        if (!home.hasOne(person) || !Kinds.isOne(kind)) return tell(BEYOND);
        return put(home.kindOf, person, kind);
    }

    public int as(int person, int kind) {
        if (!home.hasOne(person) || !Kinds.isOne(kind)) return tell(BEYOND);
        if (!Kinds.isUnder(home.kindOf[person], kind)) return tell(KIND);
        return home.reasonOf[person];
    }

    public int swap(int person, int other) {
        if (!home.hasOne(person) || !home.hasOne(other) || person == other) return tell(BEYOND);
        home.changeNumbers(person, other);
        return 1;
    }

    public int breaks(int person, int n) {
        if (!home.hasOne(person) || !isWithin(n, 1, 99)) return tell(BEYOND);
        if (home.watchOf[person] > 0 || home.eggs < n) return tell(STATE);
        home.crack(person, n);
        return home.column;
    }

    // ---- days

    public int days(int n) {
        if (!isWithin(n, 1, MOST_DAYS_ON)) return tell(BEYOND);
        if (home.day + n > House.MOST_DAY) return tell(STATE);
        home.goOn(n);
        return home.eggs;
    }

    public int on(int n, int what) {
        if (!isWithin(n, 0, MOST_DAYS_ON) || !isWithin(what, 0, 3)) return tell(BEYOND);
        tryAsItIs(n);
        switch (what) {
            case 0: return trial.eggs;
            case 1: return trial.laid;
            case 2: return trial.column;
            default: return trial.hungry;
        }
    }

    public int then(int person, int n, int what) {
        if (!home.hasOne(person)) return tell(BEYOND);
        if (!isWithin(n, 0, MOST_DAYS_ON) || !isWithin(what, 0, 1)) return tell(BEYOND);
        tryAsItIs(n);
        return what == 0 ? trial.watchOf[person] : trial.brokeOf[person];
    }

    public int hunger() {
        trial.become(home);
        for (int n = 1; n <= MOST_DAYS_ON; n++) {
            trial.goOneDay();
            if (trial.hungry > home.hungry) return n;
        }
        return tell(NONE);
    }

    public int comes(int v) {
        if (!isWithin(v, 0, House.MOST_COLUMN)) return tell(BEYOND);
        trial.become(home);
        for (int n = 0; n <= MOST_DAYS_ON; n++) {
            if (trial.column >= v) return n;
            trial.goOneDay();
        }
        return tell(NONE);
    }

    public int watched(int person) {
        if (!home.hasOne(person)) return tell(BEYOND);
        trial.become(home);
        for (int n = 0; n <= MOST_DAYS_ON; n++) {
            if (trial.watchOf[person] > 0) return n;
            trial.goOneDay();
        }
        return tell(NONE);
    }

    // ---- what is best

    public int turns(int n) {
        if (!isWithin(n, 1, MOST_DAYS_TRIED)) return tell(BEYOND);
        tryAsItIs(n);
        int best = trial.column;
        int pair = -1;
        for (int one = 0; one < home.people; one++) {
            for (int other = one + 1; other < home.people; other++) {
                trial.become(home);
                trial.changeNumbers(one, other);
                trial.goOn(n);
                if (trial.column > best) {
                    best = trial.column;
                    pair = 10 * one + other;
                }
            }
        }
        return pair < 0 ? tell(NONE) : pair;
    }

    public int reason(int person, int n, int v) {
        if (!home.hasOne(person) || !isWithin(n, 1, MOST_DAYS_TRIED)) return tell(BEYOND);
        if (!isWithin(v, 0, House.MOST_COLUMN)) return tell(BEYOND);
        for (int given = 0; given <= House.MOST_REASON; given++) {
            trial.become(home);
            trial.reasonOf[person] = given;
            trial.goOn(n);
            if (trial.column >= v) return given;
        }
        return tell(NONE);
    }

    public int enough(int n) {
        if (!isWithin(n, 1, MOST_DAYS_TRIED)) return tell(BEYOND);
        for (int given = 0; given <= House.MOST_LAID; given++) {
            trial.become(home);
            trial.laid = given;
            if (isTrialFed(n)) return given;
        }
        return tell(NONE);
    }

    public int kind(int person, int n) {
        if (!home.hasOne(person) || !isWithin(n, 1, MOST_DAYS_TRIED)) return tell(BEYOND);
        int best = -1;
        int bestKind = 0;
        for (int given = 0; given < Kinds.COUNT; given++) {
            trial.become(home);
            trial.kindOf[person] = given;
            trial.goOn(n);
            if (trial.column > best) {
                best = trial.column;
                bestKind = given;
            }
        }
        return bestKind;
    }

    public int needs(int person, int n) {
        if (!home.hasOne(person) || !isWithin(n, 1, MOST_DAYS_TRIED)) return tell(BEYOND);
        for (int given = House.MOST_NEED; given >= 0; given--) {
            trial.become(home);
            trial.needOf[person] = given;
            trial.goOn(n);
            if (trial.laid >= home.laid) return given;
        }
        return tell(NONE);
    }

    public int keep(int n) {
        if (!isWithin(n, 1, MOST_DAYS_KEPT)) return tell(BEYOND);
        int best = -1;
        int fewest = House.MOST_PEOPLE + 1;
        int sets = 1 << home.people;
        for (int members = 0; members < sets; members++) {
            int size = Integer.bitCount(members);
            if (size < fewest) {
                trial.become(home);
                trial.watchAll(members);
                if (isTrialFed(n)) {
                    fewest = size;
                    best = members;
                }
            }
        }
        return best < 0 ? tell(NONE) : best;
    }

    public int most(int n) {
        if (!isWithin(n, 0, MOST_DAYS_ON)) return tell(BEYOND);
        if (home.people == 0) return tell(NONE);
        tryAsItIs(n);
        int best = 0;
        for (int person = 1; person < trial.people; person++) {
            if (trial.brokeOf[person] > trial.brokeOf[best]) best = person;
        }
        return best;
    }

    // ---- the text

    public int feed(int bytes, int n) {
        if (!isWithin(n, 1, 4)) return tell(BEYOND);
        if (!tape.hasRoomFor(n)) return tell(FULL);
        tape.append(bytes, n);
        return tape.length;
    }

    public int wipe() {
        int was = tape.length;
        tape.length = 0;
        return was;
    }

    public int text() {
        // The reader works on the trial, so that a fault leaves the home as it was.
        trial.become(home);
        int answer = new HouseReader(tape, trial).readItems();
        tape.length = 0;
        if (answer >= 0) home.become(trial);
        return answer;
    }

    // ---- sheets

    public int sheet(int s, int bits, int n) {
        if (!Sheets.isOne(s) || !Sheets.mayHave(bits)) return tell(BEYOND);
        if (n < 0) return tell(SIZE);
        if (n > Sheets.MOST_NUMBERS) return tell(BEYOND);
        sheets.layOut(s, bits, n);
        return sheets.sizeOf[s];
    }

    public long write(int s, int i, long v) {
        if (!Sheets.isOne(s)) return tell(BEYOND);
        if (sheets.isMissing(s)) return tell(MISSING);
        if (!isWithin(i, 0, sheets.sizeOf[s] - 1)) return tell(BEYOND);
        long was = sheets.numberAt(s, i);
        sheets.putNumber(s, i, v);
        return was;
    }

    public int copy(int s, int from, int t, int to, int n) {
        if (!Sheets.isOne(s) || !Sheets.isOne(t)) return tell(BEYOND);
        if (sheets.isMissing(s) || sheets.isMissing(t)) return tell(MISSING);
        if (sheets.bitsOf[s] != sheets.bitsOf[t]) return tell(KIND);
        if (!sheets.hasRun(s, from, n) || !sheets.hasRun(t, to, n)) return tell(BEYOND);
        sheets.moveRun(s, from, t, to, n);
        return n;
    }

    public int lays(int s) {
        if (!Sheets.isOne(s)) return tell(BEYOND);
        if (sheets.isMissing(s)) return tell(MISSING);
        int came = 0;
        for (int i = 0; i < sheets.sizeOf[s] && i < home.people; i++) {
            long number = sheets.numberAt(s, i);
            if (number >= 0 && number <= House.MOST_REASON) {
                home.reasonOf[i] = (int) number;
                came++;
            }
        }
        return came;
    }

    public int book(int s) {
        if (!Sheets.isOne(s)) return tell(BEYOND);
        if (sheets.isMissing(s)) return tell(MISSING);
        trial.become(home);
        for (int i = 0; i < sheets.sizeOf[s]; i++) {
            sheets.putNumber(s, i, trial.eggs);
            trial.goOneDay();
        }
        return sheets.sizeOf[s];
    }

    public int read(int s, int person) {
        if (!Sheets.isOne(s)) return tell(BEYOND);
        if (sheets.isMissing(s)) return tell(MISSING);
        if (!home.hasOne(person)) return tell(BEYOND);
        int pairs = 0;
        for (int given = 0; given < Kinds.COUNT; given++) {
            for (int need = 0; need <= House.MOST_NEED; need++) {
                trial.become(home);
                trial.kindOf[person] = given;
                trial.needOf[person] = need;
                if (isTrialAsTold(s)) pairs++;
            }
        }
        return pairs;
    }

    // ---- images

    public int image() {
        kept.become(home);
        hasImage = true;
        return 1;
    }

    public int undo() {
        if (!hasImage) return tell(NONE);
        home.become(kept);
        return home.people;
    }

    public int tear() {
        int was = hasImage ? 1 : 0;
        hasImage = false;
        return was;
    }

    public int count(int what) {
        switch (what) {
            case 0: return home.people;
            case 1: return tape.length;
            case 2: return Integer.bitCount(home.watchedSet());
            case 3: return home.reasonsTogether();
            default: return tell(BEYOND);
        }
    }

    public int status(int which) {
        if (which == -1) return toldTogether();
        if (which < 0 || which >= FINDINGS) return tell(BEYOND);
        return told[which];
    }

    // ---- what the calls share

    private static boolean isWithin(int v, int least, int greatest) {
        return v >= least && v <= greatest;
    }

    /** Counts a finding, 0 to 6, and answers it as the interface tells it. */
    private int tell(int finding) {
        if (isWithin(finding, 0, FINDINGS - 1)) told[finding]++;
        return FIRST_FINDING - finding;
    }

    private int toldTogether() {
        int sum = 0;
        for (int finding = 0; finding < FINDINGS; finding++) sum += told[finding];
        return sum;
    }

    private static int put(int[] row, int person, int v) {
        if (person < 0 || person >= row.length) return 0;
        int was = row[person];
        row[person] = v;
        return was;
    }

    private void tryAsItIs(int n) {
        trial.become(home);
        trial.goOn(n);
    }

    /** Whether n days of the trial bring no hungry day more than there were. */
    private boolean isTrialFed(int n) {
        for (int gone = 0; gone < n; gone++) {
            trial.goOneDay();
            if (trial.hungry > home.hungry) return false;
        }
        return true;
    }

    /** Whether the trial's eggs, day by day, are the numbers of a sheet. */
    private boolean isTrialAsTold(int s) {
        for (int i = 0; i < sheets.sizeOf[s]; i++) {
            if (sheets.numberAt(s, i) != trial.eggs) return false;
            trial.goOneDay();
        }
        return true;
    }

    /** What people of a kind do. A kind says only what it does otherwise than the kind above. */
    private static final class Kinds {
        static final int COOK = 0;
        static final int BOY = 1;
        static final int REBEL = 2;
        static final int POACHER = 3;
        static final int PUPIL = 4;
        static final int LEADER = 5;
        static final int COUNT = 6;

        private static final int[] ABOVE = {-1, 0, 0, 0, 1, 2};

        static boolean isOne(int kind) {
            return kind >= 0 && kind < COUNT;
        }

        /** Whether a kind is another one, or under it. */
        static boolean isUnder(int kind, int other) {
            int at = kind;
            for (int steps = 0; steps < COUNT && isOne(at); steps++) {
                if (at == other) return true;
                at = ABOVE[at];
            }
            return false;
        }

        static int wants(int kind, int need, int day, int column) {
            switch (kind) {
                case BOY: return boyWants(need, day);
                case REBEL: return rebelWants(need, column);
                case POACHER: return day % 2 == 0 ? need + 1 : need;
                case PUPIL: return boyWants(need, day) + 1;
                case LEADER: return rebelWants(need, column) + (day % 10 == 0 ? 12 : 0);
                default: return need;
            }
        }

        private static int boyWants(int need, int day) {
            return day % 2 == 0 ? need : 1;
        }

        private static int rebelWants(int need, int column) {
            return column > 500 ? 4 * need : need;
        }

        static int enters(int kind, int reason, int n) {
            if (n < 1) return 0;
            switch (kind) {
                case BOY: return 2 * n;
                case REBEL: return rebelEnters(reason, n);
                case POACHER: return 0;
                case PUPIL: return 2 * n + reason;
                case LEADER: return 2 * rebelEnters(reason, n);
                default: return n * reason;
            }
        }

        private static int rebelEnters(int reason, int n) {
            return n * reason + n;
        }

        /** For how many days one is watched when n eggs came to so much as v. */
        static int watchDays(int kind, int n, int v) {
            if (n < 1) return 0;
            switch (kind) {
                case BOY: return 0;
                case POACHER: return 0;
                case PUPIL: return n > 5 ? 1 : 0;
                case LEADER: return cookWatchDays(n, v) + (n > 30 ? 1 : 0);
                default: return cookWatchDays(n, v);
            }
        }

        private static int cookWatchDays(int n, int v) {
            return v < n ? 2 : 0;
        }
    }

    /** The house and its people, as section 1 tells them. */
    private static final class House {
        static final int MOST_PEOPLE = 8;
        static final int MOST_DAY = 9999;
        static final int MOST_EGGS = 999;
        static final int MOST_LAID = 99;
        static final int MOST_COLUMN = 99999999;
        static final int MOST_HUNGRY = 9999;
        static final int MOST_NEED = 20;
        static final int MOST_REASON = 99;
        static final int MOST_WATCHED = 99;
        static final int MOST_BROKE = 99999;

        int day = 0;
        int eggs = 50;
        int laid = 12;
        int column = 0;
        int hungry = 0;
        int people = 0;
        final int[] kindOf = new int[MOST_PEOPLE];
        final int[] needOf = new int[MOST_PEOPLE];
        final int[] reasonOf = new int[MOST_PEOPLE];
        final int[] watchOf = new int[MOST_PEOPLE];
        final int[] brokeOf = new int[MOST_PEOPLE];

        void become(House other) {
            day = other.day;
            eggs = other.eggs;
            laid = other.laid;
            column = other.column;
            hungry = other.hungry;
            people = other.people;
            for (int person = 0; person < MOST_PEOPLE; person++) {
                kindOf[person] = other.kindOf[person];
                needOf[person] = other.needOf[person];
                reasonOf[person] = other.reasonOf[person];
                watchOf[person] = other.watchOf[person];
                brokeOf[person] = other.brokeOf[person];
            }
        }

        boolean hasOne(int person) {
            return person >= 0 && person < people;
        }

        boolean isFull() {
            return people >= MOST_PEOPLE;
        }

        /** One more, if there is room: its number, or -1. */
        int addOne(int kind) {
            if (isFull()) return -1;
            int person = people;
            kindOf[person] = kind;
            needOf[person] = 3;
            reasonOf[person] = 5;
            watchOf[person] = 0;
            brokeOf[person] = 0;
            people++;
            return person;
        }

        void changeNumbers(int one, int other) {
            if (!hasOne(one) || !hasOne(other)) return;
            exchange(kindOf, one, other);
            exchange(needOf, one, other);
            exchange(reasonOf, one, other);
            exchange(watchOf, one, other);
            exchange(brokeOf, one, other);
        }

        private static void exchange(int[] row, int one, int other) {
            int was = row[one];
            row[one] = row[other];
            row[other] = was;
        }

        void watchAll(int members) {
            for (int person = 0; person < people; person++) {
                if ((members >> person & 1) != 0) watchOf[person] = MOST_WATCHED;
            }
        }

        int watchedSet() {
            int members = 0;
            for (int person = 0; person < people; person++) {
                if (watchOf[person] > 0) members |= 1 << person;
            }
            return members;
        }

        int brokeTogether() {
            int sum = 0;
            for (int person = 0; person < people; person++) sum += brokeOf[person];
            return sum;
        }

        int reasonsTogether() {
            int sum = 0;
            for (int person = 0; person < people; person++) sum += reasonOf[person];
            return sum;
        }

        int wantsOf(int person) {
            if (!hasOne(person)) return 0;
            return Kinds.wants(kindOf[person], needOf[person], day, column);
        }

        /** One breaks n eggs, 1 or more, of those that are there. */
        void crack(int person, int n) {
            if (!hasOne(person)) return;
            int entered = Kinds.enters(kindOf[person], reasonOf[person], n);
            eggs -= n;
            brokeOf[person] = Math.min(MOST_BROKE, brokeOf[person] + n);
            column = Math.min(MOST_COLUMN, column + entered);
            watchOf[person] = Kinds.watchDays(kindOf[person], n, entered);
        }

        void goOn(int n) {
            for (int gone = 0; gone < n; gone++) goOneDay();
        }

        void goOneDay() {
            eggs = Math.min(MOST_EGGS, eggs + laid);
            int atFirst = eggs;
            boolean isHungry = false;
            for (int person = 0; person < people; person++) {
                if (watchOf[person] > 0) {
                    watchOf[person]--;
                    continue;
                }
                int wanted = wantsOf(person);
                int broken = Math.min(wanted, eggs);
                if (broken > 0) crack(person, broken);
                if (wanted > 0 && broken == 0) isHungry = true;
            }
            hensMind(atFirst, atFirst - eggs);
            if (isHungry) hungry = Math.min(MOST_HUNGRY, hungry + 1);
            day++;
        }

        private void hensMind(int atFirst, int broken) {
            if (2 * broken > atFirst) {
                laid = Math.max(0, laid - 1);
            } else if (4 * broken < atFirst) {
                laid = Math.min(MOST_LAID, laid + 1);
            }
        }
    }

    /** The tape: bytes, 0 to 255 each. */
    private static final class Tape {
        static final int MOST_BYTES = 120;

        final int[] bytes = new int[MOST_BYTES];
        int length = 0;

        boolean hasRoomFor(int n) {
            return length + n <= MOST_BYTES;
        }

        /** The n lowest bytes of a number, the highest of these first. */
        void append(int number, int n) {
            for (int left = n - 1; left >= 0 && length < MOST_BYTES; left--) {
                bytes[length] = number >> 8 * left & 255;
                length++;
            }
        }

        /** The byte at a place, or -1 where there is none. */
        int byteAt(int place) {
            return place >= 0 && place < length && place < MOST_BYTES ? bytes[place] : -1;
        }
    }

    /** Reads the text of a house from a tape into a house, token by token. */
    private static final class HouseReader {
        private static final int END = 0;
        private static final int WORD = 1;
        private static final int NUMBER = 2;
        private static final int SIGN = 3;
        private static final int NO_TOKEN = 4;
        private static final int MOST_NUMBER = 999;

        private final Tape source;
        private final House target;
        // The token that is looked at: what it is, where it stands, and what a number is.
        private int type = END;
        private int start = 0;
        private int end = 0;
        private int value = 0;

        HouseReader(Tape source, House target) {
            this.source = source;
            this.target = target;
        }

        /** How many items were read, or -1 less the place of the fault. */
        int readItems() {
            advance();
            for (int items = 1; items <= Tape.MOST_BYTES; items++) {
                if (!readItem()) return -1 - start;
                if (type == END) return items;
                if (type != SIGN) return -1 - start;
                advance();
            }
            return -1 - start;
        }

        private boolean readItem() {
            int kind = kindNamed();
            if (kind >= 0) return readPerson(kind);
            boolean isEggs = isWord("eggs");
            if (!isEggs && !isWord("laid")) return false;
            advance();
            if (!isNumber(isEggs ? House.MOST_EGGS : House.MOST_LAID)) return false;
            if (isEggs) {
                target.eggs = value;
            } else {
                target.laid = value;
            }
            advance();
            return true;
        }

        private boolean readPerson(int kind) {
            int person = target.addOne(kind);
            if (person < 0) return false;
            advance();
            return readPerhaps("needs", target.needOf, person, House.MOST_NEED)
                && readPerhaps("reason", target.reasonOf, person, House.MOST_REASON)
                && readPerhaps("watched", target.watchOf, person, House.MOST_WATCHED);
        }

        /** False only where the word stands with no number behind it that may be. */
        private boolean readPerhaps(String word, int[] row, int person, int greatest) {
            if (!isWord(word)) return true;
            advance();
            if (!isNumber(greatest)) return false;
            if (person >= 0 && person < row.length) row[person] = value;
            advance();
            return true;
        }

        private boolean isNumber(int greatest) {
            return type == NUMBER && value <= greatest;
        }

        private int kindNamed() {
            if (isWord("cook")) return Kinds.COOK;
            if (isWord("boy")) return Kinds.BOY;
            if (isWord("rebel")) return Kinds.REBEL;
            if (isWord("poacher")) return Kinds.POACHER;
            if (isWord("pupil")) return Kinds.PUPIL;
            if (isWord("leader")) return Kinds.LEADER;
            return -1;
        }

        private boolean isWord(String word) {
            if (type != WORD || end - start != word.length()) return false;
            for (int i = 0; i < word.length(); i++) {
                if (source.byteAt(start + i) != word.charAt(i)) return false;
            }
            return true;
        }

        private void advance() {
            start = end;
            while (start < source.length && source.byteAt(start) == ' ') start++;
            end = start;
            int first = source.byteAt(start);
            if (first < 0) {
                type = END;
            } else if (isLetter(first)) {
                type = WORD;
                while (end < source.length && isLetter(source.byteAt(end))) end++;
            } else if (isDigit(first)) {
                type = NUMBER;
                value = 0;
                while (end < source.length && isDigit(source.byteAt(end))) {
                    // Held just above what may be, so that many digits can't wrap around.
                    value = Math.min(MOST_NUMBER + 1, 10 * value + source.byteAt(end) - '0');
                    end++;
                }
            } else {
                type = first == ';' ? SIGN : NO_TOKEN;
                end++;
            }
        }

        private static boolean isLetter(int b) {
            return b >= 'a' && b <= 'z';
        }

        private static boolean isDigit(int b) {
            return b >= '0' && b <= '9';
        }
    }

    /** Four rows of numbers of 8, 16 or 64 bits; one of 0 bits is missing. */
    private static final class Sheets {
        static final int MOST_SHEETS = 4;
        static final int MOST_NUMBERS = 40;

        final int[] bitsOf = new int[MOST_SHEETS];
        final int[] sizeOf = new int[MOST_SHEETS];
        // All rows stand one behind the other, so that no row can be null.
        private final long[] numbers = new long[MOST_SHEETS * MOST_NUMBERS];

        static boolean isOne(int s) {
            return s >= 0 && s < MOST_SHEETS;
        }

        static boolean mayHave(int bits) {
            return bits == 0 || bits == 8 || bits == 16 || bits == 64;
        }

        boolean isMissing(int s) {
            return !isOne(s) || bitsOf[s] == 0;
        }

        void layOut(int s, int bits, int n) {
            if (!isOne(s)) return;
            bitsOf[s] = bits;
            sizeOf[s] = bits == 0 ? 0 : n;
            for (int i = 0; i < MOST_NUMBERS; i++) numbers[MOST_NUMBERS * s + i] = 0;
        }

        boolean hasRun(int s, int from, int n) {
            if (!isOne(s) || from < 0 || n < 0) return false;
            return n <= sizeOf[s] && from <= sizeOf[s] - n;
        }

        long numberAt(int s, int i) {
            return hasRun(s, i, 1) ? numbers[MOST_NUMBERS * s + i] : 0;
        }

        void putNumber(int s, int i, long v) {
            if (!hasRun(s, i, 1)) return;
            numbers[MOST_NUMBERS * s + i] = lowest(bitsOf[s], v);
        }

        private static long lowest(int bits, long v) {
            switch (bits) {
                case 8: return (byte) v;
                case 16: return (short) v;
                default: return v;
            }
        }

        void moveRun(int s, int from, int t, int to, int n) {
            if (!hasRun(s, from, n) || !hasRun(t, to, n)) return;
            System.arraycopy(numbers, MOST_NUMBERS * s + from, numbers, MOST_NUMBERS * t + to, n);
        }
    }
}
